import java.io.IOException;

/** The edges of Promise 12: frame. */
public final class Edge12FrameTest {
    private static final String NO_FRAME = "It answers 0 if there is no frame d (d negative, or not less than the number of "
            + "frames).";
    private static final String POSITION = "i 1: its position. For a waiting caller this is the one after its call; for the "
            + "top frame it is the position of the next instruction to be executed.";
    private static final String COUNT = "i 2: its number of pending values. For a waiting caller this is without the popped "
            + "arguments.";
    private static final String PENDING = "i 7..12: pending values from the bottom, 7 being the lowest; 0 where there is none.";

    public static void main(String[] args) throws IOException {
        Edges edges = new Edges(12);
        edges.holds("`frame(d, i)` reads frame d, 0 being the oldest.", Edge12FrameTest::oldestFirst);
        edges.holds(NO_FRAME, Edge12FrameTest::negative);
        edges.holds(NO_FRAME, Edge12FrameTest::notLessThanTheNumber);
        edges.holds(NO_FRAME, Edge12FrameTest::droppedFrames);
        edges.holds("i 0: its function.", Edge12FrameTest::functions);
        edges.holds(POSITION, Edge12FrameTest::positionOfACaller);
        edges.holds(POSITION, Edge12FrameTest::positionOfTheTop);
        edges.holds(COUNT, Edge12FrameTest::countsOfCallers);
        edges.holds(COUNT, Edge12FrameTest::countsOfTheTop);
        edges.holds("i 3..6: locals 0..3.", Edge12FrameTest::locals);
        edges.holds(PENDING, Edge12FrameTest::emptyToFull);
        edges.holds(PENDING, Edge12FrameTest::poppedValues);
        edges.holds("any other i: 0.", Edge12FrameTest::anyOther);
        edges.holds("After every slice all frames, top and waiting, read exactly as the plain execution in Promise 7 leaves "
                + "them, whatever the hints.", Edge12FrameTest::whateverTheHints);
        edges.holds("Nothing changes.", Edge12FrameTest::nothingChanges);
        edges.end();
    }

    /** Function 0 has called itself with one more as often as n says; each frame has 5 and its local pending. */
    private static DeoptMachine nested(int n) {
        DeoptMachine machine = new DeoptMachine(2, 16, 8, 1);
        Programs.define(machine, 0, Op.PUSH, 5, Op.LOAD, 0, Op.LOAD, 0, Op.PUSH, 1, Op.ADD, 0, Op.CALL1, 0, Op.ADD, 0,
                Op.ADD, 0, Op.RET, 0);
        machine.start(0, 1, 99);
        if (n > 0) {
            machine.run(n);
        }
        return machine;
    }

    private static void oldestFirst(Check check) {
        DeoptMachine machine = nested(7);
        check.due("frames", machine.status(2), 8);
        for (int d = 0; d < 8; d++) {
            check.due("local 0 of frame " + d, machine.frame(d, 3), d + 1);
        }
    }

    private static void negative(Check check) {
        for (int d : new int[] {-1, -2, -8, -(1 << 29), -(1 << 30), Integer.MIN_VALUE + 1, Integer.MIN_VALUE}) {
            check.frameDue("negative", nested(7), d);
        }
    }

    private static void notLessThanTheNumber(Check check) {
        for (int n = 0; n < 8; n++) {
            DeoptMachine machine = nested(n);
            check.due("frames", machine.status(2), n + 1);
            check.due("the last", machine.frame(n, 3), n + 1);
            for (int d : new int[] {n + 1, n + 2, 8, 9, 1 << 8, 1 << 28, 1 << 29, 1 << 30, Integer.MAX_VALUE}) {
                check.frameDue("past the last", machine, d);
            }
        }
    }

    private static void droppedFrames(Check check) {
        DeoptMachine machine = new DeoptMachine(3, 8, 3, 1);
        check.frameDue("at first", machine, 0);
        Programs.define(machine, 0, Op.PUSH, 6, Op.CALL1, 1, Op.CALL1, 2, Op.RET, 0);
        Programs.define(machine, 1, Op.PUSH, 7, Op.STORE, 3, Op.LOAD, 0, Op.RET, 0);
        machine.start(0, 4, 5);
        check.due("run", machine.run(2), DeoptMachine.MISSING);
        check.frameDue("the one that returned", machine, 1);
        Programs.define(machine, 2, Op.LOAD, 0, Op.RET, 0);
        check.due("run", machine.run(1), DeoptMachine.FINISHED);
        check.frameDue("after the end", machine, 0);
        machine.start(0, 4, 5);
        machine.abandon();
        check.frameDue("after abandon", machine, 0);
    }

    private static void functions(Check check) {
        DeoptMachine machine = new DeoptMachine(8, 8, 8, 1);
        for (int f = 0; f < 8; f++) {
            Programs.define(machine, f, Op.CALL0, (f + 3) % 8, Op.RET, 0);
        }
        machine.start(7, 0, 0);
        machine.run(7);
        for (int d = 0; d < 8; d++) {
            check.due("function of frame " + d, machine.frame(d, 0), (7 + 3 * d) % 8);
        }
    }

    /** The call of the longest list that is nearest to its end. */
    private static void positionOfACaller(Check check) {
        check.due("after the call", nested(1).frame(0, 1), 6);
        DeoptMachine machine = new DeoptMachine(2, 32, 2, 1);
        for (int i = 0; i < 15; i++) {
            Programs.feed(machine, 0, Op.PUSH, 1, Op.STORE, 0);
        }
        Programs.define(machine, 0, Op.CALL0, 1, Op.RET, 0);
        Programs.define(machine, 1, Op.JUMP, 0);
        machine.start(0, 0, 0);
        machine.run(1);
        check.due("after a call at 30", machine.frame(0, 1), 31);
    }

    private static void positionOfTheTop(Check check) {
        check.due("started", nested(0).frame(0, 1), 0);
        check.due("before a call", nested(1).frame(1, 1), 5);
        DeoptMachine machine = new DeoptMachine(2, 8, 2, 1);
        Programs.define(machine, 0, Op.PUSH, 1, Op.PUSH, 0, Op.DIV, 0, Op.STORE, 0, Op.JUMP, 4);
        machine.start(0, 0, 0);
        machine.run(1);
        check.due("before DIV", machine.frame(0, 1), 2);
    }

    /** A caller that has six pending keeps six, five or four when it waits. */
    private static void countsOfCallers(Check check) {
        for (int op = Op.CALL0; op <= Op.CALL2; op++) {
            for (int height = 2; height <= (op == Op.CALL0 ? 5 : 6); height++) {
                DeoptMachine machine = before(op, height);
                Programs.define(machine, 1, Op.JUMP, 0);
                machine.run(1);
                check.due("frames", machine.status(2), 2);
                int left = height - (op - Op.CALL0);
                check.due("left by op " + op + " of " + height, machine.frame(0, 2), left);
                for (int i = 0; i < 6; i++) {
                    check.due("frame(0, " + (7 + i) + ")", machine.frame(0, 7 + i), i < left ? 50 + i : 0);
                }
            }
        }
    }

    private static void countsOfTheTop(Check check) {
        check.due("started", nested(0).frame(0, 2), 0);
        for (int height = 1; height <= 6; height++) {
            check.due("with its arguments", before(Op.CALL1, height).frame(0, 2), height);
        }
    }

    /** Stopped with so many values, 50, 51 and so on, before a call of function 1, which is empty. */
    private static DeoptMachine before(int op, int height) {
        DeoptMachine machine = new DeoptMachine(2, 32, 2, 1);
        for (int i = 0; i < height; i++) {
            Programs.feed(machine, 0, Op.PUSH, 50 + i);
        }
        Programs.feed(machine, 0, op, 1);
        while (machine.emit(0, Op.RET, 0) == DeoptMachine.HEIGHT) {
            Programs.feed(machine, 0, Op.ADD, 0);
        }
        machine.seal(0);
        machine.start(0, 0, 0);
        machine.run(1);
        return machine;
    }

    private static void locals(Check check) {
        DeoptMachine machine = new DeoptMachine(2, 16, 2, 1);
        Programs.define(machine, 0, Op.PUSH, Integer.MIN_VALUE, Op.STORE, 2, Op.PUSH, Integer.MAX_VALUE, Op.STORE, 3,
                Op.LOAD, 0, Op.CALL1, 1, Op.RET, 0);
        Programs.define(machine, 1, Op.PUSH, 8, Op.STORE, 3, Op.JUMP, 2);
        machine.start(0, -6, -7);
        check.frameDue("started", machine, 0, 0, 0, 0, -6, -7, 0, 0);
        machine.run(1);
        check.frameDue("the caller", machine, 0, 0, 6, 0, -6, -7, Integer.MIN_VALUE, Integer.MAX_VALUE);
        check.frameDue("the callee", machine, 1, 1, 2, 0, -6, 0, 0, 8);
    }

    private static void emptyToFull(Check check) {
        check.frameDue("empty", nested(0), 0, 0, 0, 0, 1, 99);
        for (int height = 1; height <= 6; height++) {
            DeoptMachine machine = before(Op.CALL1, height);
            for (int i = 0; i < 6; i++) {
                check.due("frame(0, " + (7 + i) + ") of " + height, machine.frame(0, 7 + i), i < height ? 50 + i : 0);
            }
        }
    }

    private static void poppedValues(Check check) {
        DeoptMachine machine = new DeoptMachine(2, 32, 2, 1);
        Programs.define(machine, 0, Op.PUSH, 1, Op.PUSH, 2, Op.PUSH, 3, Op.PUSH, 4, Op.PUSH, 5, Op.PUSH, 6, Op.ADD, 0,
                Op.ADD, 0, Op.ADD, 0, Op.ADD, 0, Op.ADD, 0, Op.STORE, 0, Op.JUMP, 12);
        machine.start(0, 0, 0);
        machine.run(1);
        check.frameDue("nothing is pending any more", machine, 0, 0, 12, 0, 21);
    }

    private static void anyOther(Check check) {
        for (int n = 0; n < 8; n += 7) {
            for (int d = 0; d <= n; d++) {
                for (int i : Edges.outside(0, 12)) {
                    check.due("frame(" + d + ", " + i + ")", nested(n).frame(d, i), 0);
                }
            }
        }
        for (int i : Edges.outside(0, 12)) {
            check.due("frame(0, " + i + ") with six pending", before(Op.CALL1, 6).frame(0, i), 0);
        }
    }

    private static void whateverTheHints(Check check) {
        for (int n = 1; n <= 9; n++) {
            for (int hints = 0; hints < 8; hints++) {
                DeoptMachine machine = new DeoptMachine(2, 16, 8, (hints & 1) * 64);
                Programs.define(machine, 0, Op.GET, 0, Op.LOAD, 0, Op.LOAD, 0, Op.PUSH, 1, Op.ADD, 0, Op.CALL1, 0, Op.ADD, 0,
                        Op.ADD, 0, Op.RET, 0);
                machine.setGlobal(0, 5);
                if ((hints & 2) != 0) {
                    machine.optimise(0);
                }
                if ((hints & 4) != 0) {
                    machine.assume(0);
                }
                machine.start(0, 1, 99);
                check.due("run(" + n + ")", machine.run(n), n < 8 ? DeoptMachine.PAUSED : DeoptMachine.DEPTH);
                int top = Math.min(n, 7);
                for (int d = 0; d < top; d++) {
                    check.frameDue("waiting", machine, d, 0, 6, 2, d + 1, d == 0 ? 99 : 0, 0, 0, 5, d + 1);
                }
                check.frameDue("top", machine, top, 0, 5, 3, top + 1, 0, 0, 0, 5, top + 1, top + 2);
            }
        }
    }

    private static void nothingChanges(Check check) {
        for (int state = DeoptMachine.IDLE; state <= DeoptMachine.DONE; state++) {
            DeoptMachine machine = Programs.inState(state);
            int[] before = Readings.of(machine);
            for (int d = -2; d <= 9; d++) {
                for (int i = -2; i <= 14; i++) {
                    machine.frame(d, i);
                }
            }
            check.unchanged("frame in state " + state, machine, before);
        }
    }
}
