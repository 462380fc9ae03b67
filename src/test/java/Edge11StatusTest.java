import java.io.IOException;

/** The edges of Promise 11: status. */
public final class Edge11StatusTest {
    public static void main(String[] args) throws IOException {
        Edges edges = new Edges(11);
        edges.holds("0: the state (`IDLE`, `ACTIVE` or `DONE`).", Edge11StatusTest::states);
        edges.holds("1: the result, the value returned by the last run that finished (0 if none has finished).",
                Edge11StatusTest::noneHasFinished);
        edges.holds("1: the result, the value returned by the last run that finished (0 if none has finished).",
                Edge11StatusTest::lastThatFinished);
        edges.holds("2: the number of frames (0 unless the state is `ACTIVE`).", Edge11StatusTest::frames);
        edges.holds("3: the number of cells in the output.", Edge11StatusTest::cells);
        edges.holds("4: failures.", Edge11StatusTest::failures);
        edges.holds("any other: 0.", Edge11StatusTest::anyOther);
        edges.holds("Nothing changes.", Edge11StatusTest::nothingChanges);
        edges.end();
    }

    private static void states(Check check) {
        check.due("at first", new DeoptMachine(2, 8, 2, 1).status(0), 0);
        for (int state = DeoptMachine.IDLE; state <= DeoptMachine.DONE; state++) {
            check.due("state", Programs.inState(state).status(0), state);
        }
        DeoptMachine machine = Programs.inState(DeoptMachine.DONE);
        machine.start(0, 0, 0);
        check.due("started from DONE", machine.status(0), 1);
        machine.abandon();
        check.due("abandoned after DONE", machine.status(0), 0);
    }

    private static void noneHasFinished(Check check) {
        DeoptMachine machine = new DeoptMachine(2, 8, 2, 1);
        check.due("at first", machine.status(1), 0);
        Programs.define(machine, 0, Op.CALL0, 1, Op.RET, 0);
        Programs.define(machine, 1, Op.PUSH, 5, Op.JUMP_IF, 0, Op.PUSH, 6, Op.RET, 0);
        machine.start(0, 3, 4);
        check.due("started", machine.status(1), 0);
        machine.run(9);
        check.due("paused", machine.status(1), 0);
        machine.abandon();
        check.due("abandoned", machine.status(1), 0);
    }

    /** A value returned to a caller, and a run that is abandoned, are no result. */
    private static void lastThatFinished(Check check) {
        DeoptMachine machine = new DeoptMachine(3, 8, 2, 1);
        Programs.define(machine, 0, Op.LOAD, 0, Op.RET, 0);
        Programs.define(machine, 1, Op.PUSH, 8, Op.CALL1, 0, Op.CALL1, 2, Op.RET, 0);
        for (int value : new int[] {Integer.MIN_VALUE, 7, 0, Integer.MAX_VALUE, -1}) {
            machine.start(0, value, 0);
            machine.run(1);
            check.due("finished", machine.status(1), value);
            machine.start(1, 0, 0);
            check.due("to an empty one", machine.run(9), DeoptMachine.MISSING);
            check.due("a value was returned to a caller", machine.status(1), value);
            machine.abandon();
            check.due("abandoned", machine.status(1), value);
        }
    }

    private static void frames(Check check) {
        DeoptMachine machine = new DeoptMachine(2, 16, 8, 1);
        check.due("at first", machine.status(2), 0);
        Programs.define(machine, 0, Op.LOAD, 0, Op.JUMP_IF, 4, Op.PUSH, 1, Op.RET, 0, Op.LOAD, 0, Op.PUSH, 1, Op.SUB, 0,
                Op.CALL1, 0, Op.RET, 0);
        machine.start(0, 7, 0);
        for (int frames = 1; frames <= 7; frames++) {
            check.due("frames", machine.status(2), frames);
            machine.run(1);
        }
        check.due("after the last return", machine.status(2), 0);
        machine.start(0, 7, 0);
        machine.run(3);
        check.due("active", machine.status(2), 4);
        machine.abandon();
        check.due("abandoned", machine.status(2), 0);
    }

    private static void cells(Check check) {
        DeoptMachine machine = new DeoptMachine(2, 8, 2, 1);
        check.due("at first", machine.status(3), 0);
        Programs.define(machine, 0, Op.LOAD, 0, Op.PRINT, 0, Op.JUMP, 0);
        machine.start(0, -4, 0);
        for (int slice = 0; slice < 20; slice++) {
            machine.run(1);
            check.due("cells", machine.status(3), Math.min(slice + 2, 16));
        }
        machine.clearOutput();
        check.due("cleared", machine.status(3), 0);
    }

    private static void failures(Check check) {
        DeoptMachine machine = new DeoptMachine(2, 8, 2, 1);
        check.due("at first", machine.status(4), 0);
        for (int round = 1; round <= 1000; round++) {
            machine.assume(round % 8);
            machine.setGlobal(round % 8, round);
            check.due("after break " + round, machine.status(4), round);
        }
        DeoptMachine active = Programs.busy();
        active.abandon();
        check.due("after abandon", active.status(4), 1);
        active.start(3, 0, 0);
        active.run(1);
        check.due("after the end", active.status(4), 1);
    }

    private static void anyOther(Check check) {
        for (int state = DeoptMachine.IDLE; state <= DeoptMachine.DONE; state++) {
            for (int what : Edges.outside(0, 4)) {
                check.due("status(" + what + ") in state " + state, Programs.inState(state).status(what), 0);
            }
        }
    }

    private static void nothingChanges(Check check) {
        for (int state = DeoptMachine.IDLE; state <= DeoptMachine.DONE; state++) {
            DeoptMachine machine = Programs.inState(state);
            int[] before = Readings.of(machine);
            for (int what = -2; what <= 6; what++) {
                machine.status(what);
            }
            check.unchanged("status in state " + state, machine, before);
        }
    }
}
