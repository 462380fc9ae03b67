/** Promise 11: status. */
public final class Promise11StatusTest {
    private static final Check CHECK = new Check();

    public static void main(String[] args) {
        DeoptMachine machine = new DeoptMachine(2, 16, 3, 1);
        due("fresh", machine, DeoptMachine.IDLE, 0, 0, 0, 0);
        Programs.define(machine, 0, Op.PUSH, 4, Op.PRINT, 0, Op.LOAD, 0, Op.CALL1, 1, Op.RET, 0);
        Programs.define(machine, 1, Op.LOAD, 0, Op.PUT, 2, Op.PUSH, 0, Op.JUMP_IF, 0, Op.PUSH, -6, Op.RET, 0);
        due("sealed", machine, DeoptMachine.IDLE, 0, 0, 0, 0);
        machine.assume(2);
        machine.start(0, 3, 0);
        due("started", machine, DeoptMachine.ACTIVE, 0, 1, 0, 0);
        machine.run(1);
        due("in the callee", machine, DeoptMachine.ACTIVE, 0, 2, 1, 1);
        machine.run(1);
        due("finished", machine, DeoptMachine.DONE, -6, 0, 1, 1);
        machine.start(0, 3, 0);
        due("started again", machine, DeoptMachine.ACTIVE, -6, 1, 1, 1);
        machine.run(1);
        machine.abandon();
        due("abandoned", machine, DeoptMachine.IDLE, -6, 0, 2, 1);
        machine.clearOutput();
        due("cleared", machine, DeoptMachine.IDLE, -6, 0, 0, 1);
        CHECK.end();
    }

    private static void due(String when, DeoptMachine machine, int... want) {
        for (int what = 0; what < want.length; what++) {
            CHECK.due(when + ": status(" + what + ")", machine.status(what), want[what]);
        }
        for (int what : new int[] {Integer.MIN_VALUE, -1, 5, 6, Integer.MAX_VALUE}) {
            CHECK.due(when + ": status(" + what + ")", machine.status(what), 0);
        }
    }
}
