import java.io.IOException;

/** The edges of Promise 9: optimise. */
public final class Edge09OptimiseTest {
    private static final String ANSWERS = "`REFUSED` if f is not in 0..functions-1; `MISSING` if f is not sealed; else `OK`.";
    private static final String NOTHING = "No answer of any call depends on the hint: everything that can be read stays as it "
            + "was, and later runs give the same answers and effects as without it.";

    public static void main(String[] args) throws IOException {
        Edges edges = new Edges(9);
        edges.holds(ANSWERS, Edge09OptimiseTest::noSuchFunction);
        edges.holds(ANSWERS, Edge09OptimiseTest::notSealed);
        edges.holds(ANSWERS, Edge09OptimiseTest::sealedFunctions);
        edges.holds("`optimise(f)` is a hint: function f is worth running fast from now on, also in frames it already has.",
                Edge09OptimiseTest::functionsWithFrames);
        edges.holds(NOTHING, Edge09OptimiseTest::everythingStays);
        edges.holds(NOTHING, Edge09OptimiseTest::sameLaterRuns);
        edges.holds(NOTHING, Edge09OptimiseTest::sameAfterBrokenAssumptions);
        edges.holds(NOTHING, Edge09OptimiseTest::sameAfterReplacement);
        edges.end();
    }

    private static void noSuchFunction(Check check) {
        for (int state = DeoptMachine.IDLE; state <= DeoptMachine.DONE; state++) {
            DeoptMachine machine = Programs.inState(state);
            int[] before = Readings.of(machine);
            for (int f : Edges.outside(0, 3)) {
                check.due("optimise(" + f + ")", machine.optimise(f), DeoptMachine.REFUSED);
            }
            check.unchanged("optimise of no function", machine, before);
        }
    }

    private static void notSealed(Check check) {
        for (int state = DeoptMachine.IDLE; state <= DeoptMachine.DONE; state++) {
            DeoptMachine machine = Programs.inState(state);
            check.due("optimise of a fed one", machine.optimise(2), DeoptMachine.MISSING);
            machine.erase(2);
            check.due("optimise of an empty one", machine.optimise(2), DeoptMachine.MISSING);
            machine.optimise(3);
            machine.erase(3);
            check.due("optimise of an erased one", machine.optimise(3), DeoptMachine.MISSING);
            Programs.feed(machine, 3, Op.PUSH, 1, Op.RET, 0);
            check.due("optimise of one fed anew", machine.optimise(3), DeoptMachine.MISSING);
            machine.seal(3);
            check.due("optimise of one sealed anew", machine.optimise(3), DeoptMachine.OK);
        }
    }

    private static void sealedFunctions(Check check) {
        DeoptMachine machine = new DeoptMachine(8, 8, 2, 1);
        for (int f = 0; f < 8; f++) {
            Programs.define(machine, f, Op.JUMP, 0);
            check.due("optimise(" + f + ")", machine.optimise(f), DeoptMachine.OK);
            check.due("optimise(" + f + ") again", machine.optimise(f), DeoptMachine.OK);
        }
    }

    private static void functionsWithFrames(Check check) {
        DeoptMachine machine = Programs.busy();
        int[] before = Readings.of(machine);
        check.due("of a waiting frame", machine.optimise(0), DeoptMachine.OK);
        check.due("of the top frame", machine.optimise(1), DeoptMachine.OK);
        check.unchanged("optimise of functions with frames", machine, before);
        DeoptMachine plain = Programs.busy();
        check.due("the next slice", machine.run(3), plain.run(3));
        check.unchanged("the next slice", machine, Readings.of(plain));
    }

    private static void everythingStays(Check check) {
        for (int state = DeoptMachine.IDLE; state <= DeoptMachine.DONE; state++) {
            DeoptMachine machine = Programs.inState(state);
            int[] before = Readings.of(machine);
            for (int f = 0; f < 4; f++) {
                machine.optimise(f);
            }
            check.unchanged("optimise in state " + state, machine, before);
        }
    }

    /** A loop over a call that writes global 0, started; all stops but OUTPUT_FULL lie on its way. */
    private static DeoptMachine loopOverCall() {
        DeoptMachine machine = new DeoptMachine(3, 32, 3, 1);
        Programs.define(machine, 0, Op.GET, 1, Op.LOAD, 0, Op.CALL1, 1, Op.ADD, 0, Op.STORE, 1, Op.LOAD, 1, Op.GET, 2,
                Op.DIV, 0, Op.STORE, 2, Op.LOAD, 0, Op.PUSH, 1, Op.SUB, 0, Op.STORE, 0, Op.LOAD, 0, Op.JUMP_IF, 0,
                Op.LOAD, 2, Op.RET, 0);
        Programs.define(machine, 1, Op.GET, 0, Op.LOAD, 0, Op.ADD, 0, Op.PUT, 0, Op.GET, 0, Op.CALL1, 2, Op.RET, 0);
        Programs.define(machine, 2, Op.LOAD, 0, Op.PUSH, 3, Op.MUL, 0, Op.RET, 0);
        machine.setGlobal(2, 2);
        machine.assume(0);
        machine.assume(1);
        machine.assume(2);
        machine.start(0, 40, 0);
        return machine;
    }

    private static void sameLaterRuns(Check check) {
        for (int n = 1; n <= 8; n++) {
            DeoptMachine plain = loopOverCall();
            DeoptMachine hinted = loopOverCall();
            int answer = DeoptMachine.PAUSED;
            for (int slice = 0; answer == DeoptMachine.PAUSED; slice++) {
                hinted.optimise(slice % 3);
                answer = plain.run(n);
                check.due("slice " + slice + " of run(" + n + ")", hinted.run(n), answer);
                check.unchanged("slice " + slice + " of run(" + n + ")", hinted, Readings.of(plain));
            }
            check.due("the end", answer, DeoptMachine.FINISHED);
        }
    }

    private static void sameAfterBrokenAssumptions(Check check) {
        DeoptMachine plain = loopOverCall();
        DeoptMachine hinted = loopOverCall();
        for (int slice = 0; slice < 30; slice++) {
            for (int f = 0; f < 3; f++) {
                hinted.optimise(f);
            }
            for (DeoptMachine machine : new DeoptMachine[] {plain, hinted}) {
                machine.setGlobal(slice % 3, slice % 7 == 0 ? 0 : slice);
                machine.assume(slice % 2);
            }
            check.due("slice " + slice, hinted.run(3), plain.run(3));
            check.unchanged("slice " + slice, hinted, Readings.of(plain));
        }
    }

    private static void sameAfterReplacement(Check check) {
        DeoptMachine plain = loopOverCall();
        DeoptMachine hinted = loopOverCall();
        for (int slice = 0; slice < 30; slice++) {
            hinted.optimise(2);
            for (DeoptMachine machine : new DeoptMachine[] {plain, hinted}) {
                if (machine.erase(2) == DeoptMachine.OK) {
                    Programs.feed(machine, 2, Op.LOAD, 0, Op.PUSH, slice, Op.ADD, 0, Op.RET, 0);
                }
                if (slice % 3 != 0) {
                    machine.seal(2);
                }
            }
            check.due("slice " + slice, hinted.run(1 + slice % 3), plain.run(1 + slice % 3));
            check.unchanged("slice " + slice, hinted, Readings.of(plain));
        }
    }
}
