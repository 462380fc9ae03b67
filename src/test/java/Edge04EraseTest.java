import java.io.IOException;

/** The edges of Promise 4: erase. */
public final class Edge04EraseTest {
    private static final String REFUSED = "`REFUSED` if f is not in 0..functions-1, or if any frame, top or waiting, is of "
            + "function f.";
    private static final String EMPTIED = "Else f becomes empty and not sealed, and the answer is `OK`, also if it was empty "
            + "and not sealed before.";
    private static final String ANEW = "This holds in every state: during an `ACTIVE` run a function without a frame can be "
            + "erased, fed and sealed anew, even one that an active caller is about to call again; the call then enters the "
            + "function as it is at that time.";

    public static void main(String[] args) throws IOException {
        Edges edges = new Edges(4);
        edges.holds(REFUSED, Edge04EraseTest::noSuchFunction);
        edges.holds(REFUSED, Edge04EraseTest::topFrame);
        edges.holds(REFUSED, Edge04EraseTest::waitingFrames);
        edges.holds(EMPTIED, Edge04EraseTest::emptyBefore);
        edges.holds(EMPTIED, Edge04EraseTest::fedBefore);
        edges.holds(EMPTIED, Edge04EraseTest::fullAndSealedBefore);
        edges.holds("Nothing else changes.", Edge04EraseTest::nothingElseChanges);
        edges.holds(ANEW, Edge04EraseTest::everyState);
        edges.holds(ANEW, Edge04EraseTest::calleeErasedInARun);
        edges.holds(ANEW, Edge04EraseTest::calleeReplacedInARun);
        edges.holds(ANEW, Edge04EraseTest::returnedFunctionHasNoFrame);
        edges.end();
    }

    private static void noSuchFunction(Check check) {
        for (int state = DeoptMachine.IDLE; state <= DeoptMachine.DONE; state++) {
            DeoptMachine machine = Programs.inState(state);
            int[] before = Readings.of(machine);
            for (int f : Edges.outside(0, 3)) {
                check.due("erase(" + f + ")", machine.erase(f), DeoptMachine.REFUSED);
            }
            check.unchanged("erase of no function", machine, before);
        }
        check.due("erase of the first", new DeoptMachine(8, 8, 2, 1).erase(0), DeoptMachine.OK);
        check.due("erase of the last", new DeoptMachine(8, 8, 2, 1).erase(7), DeoptMachine.OK);
    }

    private static void topFrame(Check check) {
        DeoptMachine machine = new DeoptMachine(2, 8, 2, 1);
        Programs.define(machine, 1, Op.PUSH, 1, Op.RET, 0);
        machine.start(1, 0, 0);
        int[] before = Readings.of(machine);
        check.due("erase of the only frame's", machine.erase(1), DeoptMachine.REFUSED);
        check.unchanged("erase of the only frame's", machine, before);
        machine.run(1);
        check.due("erase after the end", machine.erase(1), DeoptMachine.OK);
    }

    /** Functions 0 to 7 call each the next: all have a frame, seven of them a waiting one. */
    private static void waitingFrames(Check check) {
        DeoptMachine machine = new DeoptMachine(8, 8, 8, 1);
        for (int f = 0; f < 7; f++) {
            Programs.define(machine, f, Op.CALL0, f + 1, Op.RET, 0);
        }
        Programs.define(machine, 7, Op.JUMP, 0);
        machine.start(0, 0, 0);
        machine.run(7);
        check.due("frames", machine.status(2), 8);
        int[] before = Readings.of(machine);
        for (int f = 0; f < 8; f++) {
            check.due("erase(" + f + ")", machine.erase(f), DeoptMachine.REFUSED);
        }
        check.unchanged("erase of a waiting one", machine, before);
    }

    private static void emptyBefore(Check check) {
        for (int state = DeoptMachine.IDLE; state <= DeoptMachine.DONE; state++) {
            DeoptMachine machine = Programs.inState(state);
            machine.erase(2);
            int[] before = Readings.of(machine);
            check.due("erase of an empty one", machine.erase(2), DeoptMachine.OK);
            check.unchanged("erase of an empty one", machine, before);
        }
    }

    private static void fedBefore(Check check) {
        DeoptMachine machine = new DeoptMachine(2, 8, 2, 1);
        int[] before = Readings.of(machine);
        Programs.feed(machine, 1, Op.PUSH, 1);
        check.due("erase of a fed one", machine.erase(1), DeoptMachine.OK);
        check.unchanged("erase of a fed one", machine, before);
        check.due("seal after it", machine.seal(1), DeoptMachine.INVALID);
        check.due("the height is 0 again", machine.emit(1, Op.RET, 0), DeoptMachine.HEIGHT);
    }

    private static void fullAndSealedBefore(Check check) {
        DeoptMachine machine = new DeoptMachine(2, 8, 2, 1);
        int[] before = Readings.of(machine);
        Programs.define(machine, 1, Op.JUMP, 7, Op.JUMP, 7, Op.JUMP, 7, Op.JUMP, 7, Op.JUMP, 7, Op.JUMP, 7, Op.JUMP, 7,
                Op.JUMP, 7);
        check.due("erase of a full one", machine.erase(1), DeoptMachine.OK);
        check.unchanged("erase of a full one", machine, before);
        check.due("start after it", machine.start(1, 0, 0), DeoptMachine.MISSING);
        check.due("optimise after it", machine.optimise(1), DeoptMachine.MISSING);
        Programs.define(machine, 1, Op.PUSH, 1, Op.RET, 0);
        check.due("new length", machine.code(1, 2, 0), 2);
        check.due("past the new length", machine.code(1, 0, 2), -1);
    }

    private static void nothingElseChanges(Check check) {
        for (int state = DeoptMachine.IDLE; state <= DeoptMachine.DONE; state++) {
            DeoptMachine machine = Programs.inState(state);
            int[] before = Readings.of(machine);
            check.due("erase", machine.erase(3), DeoptMachine.OK);
            check.changedOnly("erase in state " + state, machine, before, "code(3, 0, 0)", "code(3, 1, 0)",
                    "code(3, 0, 1)", "code(3, 1, 1)", "code(3, 2)", "code(3, 3)");
        }
    }

    private static void everyState(Check check) {
        for (int state = DeoptMachine.IDLE; state <= DeoptMachine.DONE; state++) {
            boolean active = state == DeoptMachine.ACTIVE;
            for (int f = 0; f < 4; f++) {
                int want = active && f < 2 ? DeoptMachine.REFUSED : DeoptMachine.OK;
                check.due("erase(" + f + ") in state " + state, Programs.inState(state).erase(f), want);
            }
        }
    }

    /** Paused before the second of three calls of function 1, which has answered 70 to the first. */
    private static DeoptMachine betweenCalls(Check check) {
        DeoptMachine machine = new DeoptMachine(2, 16, 3, 1);
        Programs.define(machine, 1, Op.LOAD, 0, Op.PUSH, 10, Op.MUL, 0, Op.RET, 0);
        Programs.define(machine, 0, Op.LOAD, 0, Op.CALL1, 1, Op.LOAD, 0, Op.CALL1, 1, Op.LOAD, 0, Op.CALL1, 1, Op.SUB, 0,
                Op.SUB, 0, Op.RET, 0);
        machine.optimise(0);
        machine.optimise(1);
        machine.start(0, 7, 0);
        check.due("the first call", machine.run(1), DeoptMachine.PAUSED);
        return machine;
    }

    private static void calleeErasedInARun(Check check) {
        DeoptMachine machine = betweenCalls(check);
        check.due("erase of the callee", machine.erase(1), DeoptMachine.OK);
        check.due("call of an empty one", machine.run(1), DeoptMachine.MISSING);
        Programs.feed(machine, 1, Op.LOAD, 0, Op.RET, 0);
        check.due("call of an unsealed one", machine.run(1), DeoptMachine.MISSING);
        machine.seal(1);
        check.due("call of the new one", machine.run(1), DeoptMachine.PAUSED);
        check.frameDue("after the new one", machine, 0, 0, 5, 3, 7, 0, 0, 0, 70, 7, 7);
    }

    private static void calleeReplacedInARun(Check check) {
        DeoptMachine machine = betweenCalls(check);
        machine.erase(1);
        Programs.define(machine, 1, Op.LOAD, 0, Op.PUSH, 1, Op.ADD, 0, Op.RET, 0);
        check.due("the second call", machine.run(1), DeoptMachine.PAUSED);
        machine.erase(1);
        Programs.define(machine, 1, Op.PUSH, 0, Op.LOAD, 0, Op.SUB, 0, Op.RET, 0);
        check.due("the third call", machine.run(1), DeoptMachine.FINISHED);
        check.due("70 - (8 - -7)", machine.status(1), 55);
    }

    private static void returnedFunctionHasNoFrame(Check check) {
        DeoptMachine machine = betweenCalls(check);
        check.due("a waiting caller", machine.erase(0), DeoptMachine.REFUSED);
        check.due("a returned callee", machine.erase(1), DeoptMachine.OK);
    }
}
