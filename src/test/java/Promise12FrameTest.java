/** Promise 12: frame. */
public final class Promise12FrameTest {
    private static final Check CHECK = new Check();

    public static void main(String[] args) {
        noSuchFrame();
        noSuchPart();
        fullPendingStack();
        callersAndTop();
        poppedValuesAreNotSeen();
        CHECK.end();
    }

    private static void noSuchFrame() {
        DeoptMachine machine = Programs.busy();
        CHECK.due("frames", machine.status(2), 2);
        for (int d : new int[] {Integer.MIN_VALUE, -1, 2, 3, 4, 8, Integer.MAX_VALUE}) {
            CHECK.frameDue("no frame", machine, d);
        }
        machine.abandon();
        CHECK.frameDue("after abandon", machine, 0);
        machine.start(3, 5, 5);
        machine.run(1);
        CHECK.frameDue("after the end", machine, 0);
    }

    private static void noSuchPart() {
        DeoptMachine machine = full();
        for (int d = 0; d < 2; d++) {
            for (int i : new int[] {Integer.MIN_VALUE, -1, 13, 14, 100, Integer.MAX_VALUE}) {
                CHECK.due("frame(" + d + ", " + i + ")", machine.frame(d, i), 0);
            }
        }
    }

    private static void fullPendingStack() {
        DeoptMachine machine = full();
        CHECK.frameDue("all six", machine, 1, 1, 10, 6, 70, 71, 72, 73, 1, 2, 3, 4, 5, 6);
        CHECK.frameDue("its caller", machine, 0, 0, 8, 3, 80, 81, 0, 0, 11, 12, 13);
    }

    /** Function 0 waits with three values, function 1 is before a call of an empty one with six. */
    private static DeoptMachine full() {
        DeoptMachine machine = new DeoptMachine(3, 32, 3, 1);
        Programs.define(machine, 0, Op.PUSH, 11, Op.PUSH, 12, Op.PUSH, 13, Op.PUSH, 70, Op.PUSH, 71, Op.PUSH, 0, Op.ADD, 0,
                Op.CALL2, 1, Op.ADD, 0, Op.ADD, 0, Op.ADD, 0, Op.RET, 0);
        Programs.define(machine, 1, Op.PUSH, 72, Op.STORE, 2, Op.PUSH, 73, Op.STORE, 3, Op.PUSH, 1, Op.PUSH, 2, Op.PUSH, 3,
                Op.PUSH, 4, Op.PUSH, 5, Op.PUSH, 6, Op.CALL1, 2, Op.ADD, 0, Op.ADD, 0, Op.ADD, 0, Op.ADD, 0, Op.ADD, 0,
                Op.RET, 0);
        machine.start(0, 80, 81);
        CHECK.due("run", machine.run(2), DeoptMachine.MISSING);
        return machine;
    }

    private static void callersAndTop() {
        DeoptMachine machine = new DeoptMachine(2, 16, 8, 1);
        Programs.define(machine, 0, Op.PUSH, 5, Op.LOAD, 0, Op.LOAD, 0, Op.PUSH, 1, Op.ADD, 0, Op.CALL1, 0, Op.ADD, 0,
                Op.ADD, 0, Op.RET, 0);
        machine.start(0, 1, 99);
        CHECK.due("run", machine.run(7), DeoptMachine.PAUSED);
        CHECK.due("frames", machine.status(2), 8);
        for (int d = 0; d < 7; d++) {
            CHECK.frameDue("waiting", machine, d, 0, 6, 2, d + 1, d == 0 ? 99 : 0, 0, 0, 5, d + 1);
        }
        CHECK.frameDue("top", machine, 7, 0, 5, 3, 8, 0, 0, 0, 5, 8, 9);
    }

    private static void poppedValuesAreNotSeen() {
        DeoptMachine machine = new DeoptMachine(2, 16, 2, 1);
        Programs.define(machine, 0, Op.PUSH, 5, Op.PUSH, 6, Op.PUSH, 7, Op.ADD, 0, Op.ADD, 0, Op.STORE, 0, Op.JUMP, 6);
        machine.start(0, 0, 0);
        CHECK.due("run", machine.run(1), DeoptMachine.PAUSED);
        CHECK.frameDue("nothing pending", machine, 0, 0, 6, 0, 18);
    }
}
