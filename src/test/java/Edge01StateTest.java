import java.io.IOException;

/** The edges of Promise 1: constructor, state and general rules. */
public final class Edge01StateTest {
    private static final int[] STATES = {DeoptMachine.IDLE, DeoptMachine.ACTIVE, DeoptMachine.DONE};
    private static final String CLAMPS = "`DeoptMachine(functions, codeLength, depth, heat)` clamps each argument (below "
            + "the least becomes the least, above the greatest becomes the greatest): `functions` to 2..8, `codeLength` "
            + "to 8..32, `depth` to 2..8, `heat` to 1..64.";
    private static final String ORDER = "The conditions of a call are looked at in the order in which they are written; "
            + "the first that applies decides the answer.";

    public static void main(String[] args) throws IOException {
        Edges edges = new Edges(1);
        edges.holds(CLAMPS, Edge01StateTest::tooFewFunctions);
        edges.holds(CLAMPS, Edge01StateTest::tooManyFunctions);
        edges.holds(CLAMPS, Edge01StateTest::tooShortCode);
        edges.holds(CLAMPS, Edge01StateTest::tooLongCode);
        edges.holds(CLAMPS, Edge01StateTest::tooLittleDepth);
        edges.holds(CLAMPS, Edge01StateTest::tooMuchDepth);
        edges.holds(CLAMPS, Edge01StateTest::allArgumentsOutside);
        edges.holds("From here on these names mean the clamped values.", Edge01StateTest::clampedFunctionsCount);
        edges.holds("From here on these names mean the clamped values.", Edge01StateTest::clampedCodeLengthCounts);
        edges.holds("No answer of any call depends on it.", Edge01StateTest::heatDecidesNothing);
        edges.holds("Functions 0..functions-1, each with a list of at most `codeLength` instructions (op, operand) and a "
                + "mark 'sealed'.", Edge01StateTest::allListsFull);
        edges.holds("At first each is empty and not sealed.", Edge01StateTest::functionsAtFirst);
        edges.holds("Globals 0..7, ints, at first 0, each with a mark 'assumed', at first false.",
                Edge01StateTest::globalsAtFirst);
        edges.holds("A count of failures, at first 0.", check -> check.due("status(4)", fresh().status(4), 0));
        edges.holds("An output list of at most 16 ints, at first empty.", Edge01StateTest::outputAtMost16);
        edges.holds("A result, at first 0.", check -> check.due("status(1)", fresh().status(1), 0));
        edges.holds("A state: `IDLE` (at first), `ACTIVE` or `DONE`.", Edge01StateTest::threeStates);
        edges.holds("A list of frames, numbered from 0 (oldest) up to the top one, at most `depth` of them.",
                Edge01StateTest::framesUpToDepth);
        edges.holds("There are frames exactly while the state is `ACTIVE`, so at first there are none.",
                Edge01StateTest::framesOnlyWhileActive);
        edges.holds("A frame has a function number, a position in its code, locals 0..3, and a pending stack of at most "
                + "6 ints.", Edge01StateTest::allFramesFull);
        edges.holds("All arithmetic on ints wraps as in Java.", Edge01StateTest::arithmeticWraps);
        edges.holds("A call whose answer its promise names `REFUSED`, `FULL`, `HEIGHT` or `INVALID` changes nothing.",
                Edge01StateTest::refusedCallsChangeNothing);
        edges.holds("(An answer that is a count or a value is none of these, though the number may be the same.)",
                Edge01StateTest::aCountIsNoRefusal);
        edges.holds("The getters `code`, `global`, `assumed`, `status`, `frame` and `output` change nothing.",
                Edge01StateTest::gettersChangeNothing);
        edges.holds("Any call may be made in any state.", Edge01StateTest::anyCallInAnyState);
        edges.holds(ORDER, Edge01StateTest::orderInEmit);
        edges.holds(ORDER, Edge01StateTest::orderInSeal);
        edges.holds(ORDER, Edge01StateTest::orderInStart);
        edges.holds(ORDER, Edge01StateTest::orderInRun);
        edges.end();
    }

    private static DeoptMachine fresh() {
        return new DeoptMachine(8, 32, 8, 1);
    }

    private static void tooFewFunctions(Check check) {
        for (int given : new int[] {Integer.MIN_VALUE, -8, -1, 0, 1, 2}) {
            check.due("functions " + given, functionsOf(new DeoptMachine(given, 8, 2, 1)), 2);
        }
        check.due("functions 3", functionsOf(new DeoptMachine(3, 8, 2, 1)), 3);
    }

    private static void tooManyFunctions(Check check) {
        for (int given : new int[] {8, 9, 16, 1 << 16, Integer.MAX_VALUE}) {
            check.due("functions " + given, functionsOf(new DeoptMachine(given, 8, 2, 1)), 8);
        }
        check.due("functions 7", functionsOf(new DeoptMachine(7, 8, 2, 1)), 7);
    }

    private static int functionsOf(DeoptMachine machine) {
        int count = 0;
        while (count < 100 && machine.erase(count) == DeoptMachine.OK) {
            count++;
        }
        return count;
    }

    private static void tooShortCode(Check check) {
        for (int given : new int[] {Integer.MIN_VALUE, -32, -1, 0, 1, 7, 8}) {
            check.due("codeLength " + given, codeLengthOf(new DeoptMachine(2, given, 2, 1)), 8);
        }
        check.due("codeLength 9", codeLengthOf(new DeoptMachine(2, 9, 2, 1)), 9);
    }

    private static void tooLongCode(Check check) {
        for (int given : new int[] {32, 33, 64, 1 << 16, Integer.MAX_VALUE}) {
            check.due("codeLength " + given, codeLengthOf(new DeoptMachine(2, given, 2, 1)), 32);
        }
        check.due("codeLength 31", codeLengthOf(new DeoptMachine(2, 31, 2, 1)), 31);
    }

    private static int codeLengthOf(DeoptMachine machine) {
        int count = 0;
        while (count < 100 && machine.emit(1, Op.JUMP, 0) == DeoptMachine.OK) {
            count++;
        }
        return count;
    }

    private static void tooLittleDepth(Check check) {
        for (int given : new int[] {Integer.MIN_VALUE, -8, -1, 0, 1, 2}) {
            check.due("depth " + given, depthOf(new DeoptMachine(2, 8, given, 1)), 2);
        }
        check.due("depth 3", depthOf(new DeoptMachine(2, 8, 3, 1)), 3);
    }

    private static void tooMuchDepth(Check check) {
        for (int given : new int[] {8, 9, 16, 1 << 16, Integer.MAX_VALUE}) {
            check.due("depth " + given, depthOf(new DeoptMachine(2, 8, given, 1)), 8);
        }
        check.due("depth 7", depthOf(new DeoptMachine(2, 8, 7, 1)), 7);
    }

    /** How many frames a function has that calls itself until it is stopped. */
    private static int depthOf(DeoptMachine machine) {
        Programs.define(machine, 0, Op.CALL0, 0, Op.RET, 0);
        machine.start(0, 0, 0);
        machine.run(64);
        return machine.status(2);
    }

    private static void allArgumentsOutside(Check check) {
        int[][] givenAndDue = {{Integer.MIN_VALUE, 2, 8, 2}, {Integer.MAX_VALUE, 8, 32, 8}};
        for (int[] row : givenAndDue) {
            DeoptMachine machine = new DeoptMachine(row[0], row[0], row[0], row[0]);
            check.due("functions of all " + row[0], functionsOf(machine), row[1]);
            check.due("codeLength of all " + row[0], codeLengthOf(machine), row[2]);
            check.due("depth of all " + row[0], depthOf(machine), row[3]);
        }
    }

    private static void clampedFunctionsCount(Check check) {
        for (int given : new int[] {0, 50}) {
            DeoptMachine machine = new DeoptMachine(given, 8, 2, 1);
            int last = given == 0 ? 1 : 7;
            check.due("emit last", machine.emit(last, Op.CALL0, last), DeoptMachine.OK);
            check.due("emit past", machine.emit(last + 1, Op.CALL0, last), DeoptMachine.REFUSED);
            check.due("emit a call past", machine.emit(last, Op.CALL0, last + 1), DeoptMachine.REFUSED);
            machine.emit(last, Op.RET, 0);
            check.due("seal last", machine.seal(last), DeoptMachine.OK);
            check.due("seal past", machine.seal(last + 1), DeoptMachine.REFUSED);
            check.due("optimise last", machine.optimise(last), DeoptMachine.OK);
            check.due("optimise past", machine.optimise(last + 1), DeoptMachine.REFUSED);
            check.due("code last", machine.code(last, 3, 0), 1);
            check.due("code past", machine.code(last + 1, 3, 0), -1);
            check.due("start past", machine.start(last + 1, 0, 0), DeoptMachine.REFUSED);
            check.due("start last", machine.start(last, 0, 0), DeoptMachine.OK);
        }
    }

    private static void clampedCodeLengthCounts(Check check) {
        for (int given : new int[] {0, 50}) {
            DeoptMachine machine = new DeoptMachine(2, given, 2, 1);
            int last = given == 0 ? 7 : 31;
            check.due("jump to the last", machine.emit(0, Op.JUMP, last), DeoptMachine.OK);
            check.due("jump past the last", machine.emit(0, Op.JUMP, last + 1), DeoptMachine.REFUSED);
            machine.emit(1, Op.PUSH, 1);
            check.due("jump if to the last", machine.emit(1, Op.JUMP_IF, last), DeoptMachine.OK);
            machine.emit(1, Op.PUSH, 1);
            check.due("jump if past the last", machine.emit(1, Op.JUMP_IF, last + 1), DeoptMachine.REFUSED);
        }
    }

    private static void heatDecidesNothing(Check check) {
        DeoptMachine plain = loopAndCall(1);
        for (int heat : new int[] {Integer.MIN_VALUE, -1, 0, 2, 3, 63, 64, 65, Integer.MAX_VALUE}) {
            DeoptMachine other = loopAndCall(heat);
            check.unchanged("heat " + heat, other, Readings.of(plain));
        }
        for (int slice = 1; slice <= 90; slice++) {
            DeoptMachine other = loopAndCall(slice);
            plain = loopAndCall(1);
            for (int round = 0; round < 3; round++) {
                check.due("heat " + slice + ": run", other.run(slice), plain.run(slice));
                check.unchanged("heat " + slice + ": run", other, Readings.of(plain));
            }
        }
    }

    /** In the midst of a loop that calls and writes an assumed global. */
    private static DeoptMachine loopAndCall(int heat) {
        DeoptMachine machine = new DeoptMachine(2, 16, 3, heat);
        Programs.define(machine, 0, Op.LOAD, 0, Op.CALL1, 1, Op.STORE, 0, Op.LOAD, 0, Op.JUMP_IF, 0, Op.GET, 0, Op.RET, 0);
        Programs.define(machine, 1, Op.GET, 0, Op.PUSH, 3, Op.ADD, 0, Op.PUT, 0, Op.LOAD, 0, Op.PUSH, 1, Op.SUB, 0, Op.RET, 0);
        machine.assume(0);
        machine.start(0, 70, 0);
        machine.run(64);
        machine.assume(0);
        return machine;
    }

    private static void allListsFull(Check check) {
        DeoptMachine machine = fresh();
        for (int i = 0; i < 32; i++) {
            for (int f = 0; f < 8; f++) {
                int operand = i % 2 == 0 ? 1000 * f + i : f % 4;
                check.due("emit " + i + " to " + f, machine.emit(f, i % 2 == 0 ? Op.PUSH : Op.STORE, operand), DeoptMachine.OK);
            }
        }
        for (int f = 0; f < 8; f++) {
            check.due("a 33rd to " + f, machine.emit(f, Op.PUSH, 0), DeoptMachine.FULL);
            check.due("length of " + f, machine.code(f, 2, 0), 32);
            for (int i = 0; i < 32; i++) {
                check.due("op " + i + " of " + f, machine.code(f, 0, i), i % 2 == 0 ? Op.PUSH : Op.STORE);
                check.due("operand " + i + " of " + f, machine.code(f, 1, i), i % 2 == 0 ? 1000 * f + i : f % 4);
            }
        }
    }

    private static void functionsAtFirst(Check check) {
        for (int f = 0; f < 8; f++) {
            check.due("length of " + f, fresh().code(f, 2, 0), 0);
            check.due("mark of " + f, fresh().code(f, 3, 0), 0);
        }
    }

    private static void globalsAtFirst(Check check) {
        for (int g = 0; g < 8; g++) {
            check.due("global(" + g + ")", fresh().global(g), 0);
            check.due("assumed(" + g + ")", fresh().assumed(g), false);
        }
    }

    private static void outputAtMost16(Check check) {
        DeoptMachine machine = new DeoptMachine(2, 8, 2, 1);
        check.due("cells at first", machine.status(3), 0);
        Programs.define(machine, 0, Op.LOAD, 0, Op.PRINT, 0, Op.JUMP, 0);
        machine.start(0, 5, 0);
        check.due("17 times PRINT", machine.run(64), DeoptMachine.OUTPUT_FULL);
        check.due("cells", machine.status(3), 16);
    }

    private static void threeStates(Check check) {
        DeoptMachine machine = new DeoptMachine(2, 8, 2, 1);
        check.due("at first", machine.status(0), DeoptMachine.IDLE);
        Programs.define(machine, 0, Op.PUSH, 1, Op.RET, 0);
        machine.start(0, 0, 0);
        check.due("started", machine.status(0), DeoptMachine.ACTIVE);
        machine.run(1);
        check.due("finished", machine.status(0), DeoptMachine.DONE);
    }

    private static void framesUpToDepth(Check check) {
        for (int depth = 2; depth <= 8; depth++) {
            DeoptMachine machine = new DeoptMachine(2, 8, depth, 1);
            Programs.define(machine, 0, Op.LOAD, 0, Op.PUSH, 1, Op.ADD, 0, Op.CALL1, 0, Op.RET, 0);
            machine.start(0, 50, 0);
            check.due("depth " + depth, machine.run(64), DeoptMachine.DEPTH);
            check.due("frames", machine.status(2), depth);
            for (int d = 0; d < depth; d++) {
                check.due("local 0 of frame " + d, machine.frame(d, 3), 50 + d);
            }
        }
    }

    private static void framesOnlyWhileActive(Check check) {
        DeoptMachine machine = new DeoptMachine(2, 8, 2, 1);
        noFrames(check, "at first", machine);
        Programs.define(machine, 0, Op.LOAD, 0, Op.CALL1, 1, Op.RET, 0);
        Programs.define(machine, 1, Op.LOAD, 0, Op.RET, 0);
        machine.start(0, 7, 8);
        check.due("frames after start", machine.status(2), 1);
        machine.abandon();
        noFrames(check, "after abandon", machine);
        machine.start(0, 7, 8);
        check.due("run", machine.run(1), DeoptMachine.FINISHED);
        noFrames(check, "after the end", machine);
    }

    private static void noFrames(Check check, String when, DeoptMachine machine) {
        check.due("frames " + when, machine.status(2), 0);
        check.frameDue(when, machine, 0);
        check.frameDue(when, machine, 1);
    }

    /** Every frame has as much pending as can be, and none touches another. */
    private static void allFramesFull(Check check) {
        DeoptMachine machine = fresh();
        Programs.define(machine, 7, Op.LOAD, 0, Op.PUSH, 1, Op.ADD, 0, Op.STORE, 1, Op.LOAD, 1, Op.STORE, 2, Op.LOAD, 1,
                Op.STORE, 3, Op.LOAD, 0, Op.LOAD, 0, Op.LOAD, 0, Op.LOAD, 0, Op.LOAD, 0, Op.LOAD, 1, Op.CALL1, 7,
                Op.ADD, 0, Op.ADD, 0, Op.ADD, 0, Op.ADD, 0, Op.ADD, 0, Op.RET, 0);
        machine.start(7, 11, 0);
        check.due("run", machine.run(64), DeoptMachine.DEPTH);
        for (int k = 11; k < 18; k++) {
            check.frameDue("waiting", machine, k - 11, 7, 15, 5, k, k + 1, k + 1, k + 1, k, k, k, k, k);
        }
        check.frameDue("top", machine, 7, 7, 14, 6, 18, 19, 19, 19, 18, 18, 18, 18, 18, 19);
        machine = fresh();
        Programs.feed(machine, 0, Op.PUSH, 1, Op.PUSH, 2, Op.PUSH, 3, Op.PUSH, 4, Op.PUSH, 5, Op.PUSH, 6);
        check.due("a seventh", machine.emit(0, Op.PUSH, 7), DeoptMachine.HEIGHT);
    }

    private static void arithmeticWraps(Check check) {
        int least = Integer.MIN_VALUE;
        int most = Integer.MAX_VALUE;
        check.due("most + 1", Programs.calculate(Op.ADD, most, 1), least);
        check.due("least + -1", Programs.calculate(Op.ADD, least, -1), most);
        check.due("least - 1", Programs.calculate(Op.SUB, least, 1), most);
        check.due("most - -1", Programs.calculate(Op.SUB, most, -1), least);
        check.due("0 - least", Programs.calculate(Op.SUB, 0, least), least);
        check.due("most * 2", Programs.calculate(Op.MUL, most, 2), -2);
        check.due("most * most", Programs.calculate(Op.MUL, most, most), 1);
        check.due("least * -1", Programs.calculate(Op.MUL, least, -1), least);
        check.due("65536 * 65536", Programs.calculate(Op.MUL, 65536, 65536), 0);
        check.due("least / -1", Programs.calculate(Op.DIV, least, -1), least);
    }

    private static void refusedCallsChangeNothing(Check check) {
        for (int state : STATES) {
            DeoptMachine machine = Programs.inState(state);
            machine.erase(3);
            Programs.define(machine, 3, Op.JUMP, 0);
            machine.erase(2);
            int[] before = Readings.of(machine);
            check.due("seal of an empty one", machine.seal(2), DeoptMachine.INVALID);
            check.due("seal of a sealed one", machine.seal(3), DeoptMachine.REFUSED);
            check.due("emit to a sealed one", machine.emit(3, Op.PUSH, 1), DeoptMachine.REFUSED);
            check.due("emit too low", machine.emit(2, Op.RET, 0), DeoptMachine.HEIGHT);
            check.due("emit of no op", machine.emit(2, 17, 0), DeoptMachine.REFUSED);
            check.due("emit with a wrong operand", machine.emit(2, Op.LOAD, 4), DeoptMachine.REFUSED);
            check.due("emit to none", machine.emit(4, Op.PUSH, 1), DeoptMachine.REFUSED);
            check.due("erase of none", machine.erase(4), DeoptMachine.REFUSED);
            check.due("start of none", machine.start(4, 1, 1), DeoptMachine.REFUSED);
            check.due("run(0)", machine.run(0), DeoptMachine.REFUSED);
            check.due("setGlobal(8, 1)", machine.setGlobal(8, 1), DeoptMachine.REFUSED);
            check.due("assume(8)", machine.assume(8), DeoptMachine.REFUSED);
            check.due("optimise(4)", machine.optimise(4), DeoptMachine.REFUSED);
            if (state == DeoptMachine.ACTIVE) {
                check.due("start while active", machine.start(3, 1, 1), DeoptMachine.REFUSED);
                check.due("erase of a waiting one", machine.erase(0), DeoptMachine.REFUSED);
                check.due("erase of the top one", machine.erase(1), DeoptMachine.REFUSED);
            } else {
                check.due("run while not active", machine.run(1), DeoptMachine.REFUSED);
                check.due("abandon while not active", machine.abandon(), DeoptMachine.REFUSED);
            }
            check.unchanged("refused calls in state " + state, machine, before);
            for (int i = 0; i < 16; i++) {
                Programs.feed(machine, 2, Op.JUMP, 0);
            }
            before = Readings.of(machine);
            check.due("emit to a full one", machine.emit(2, Op.JUMP, 0), DeoptMachine.FULL);
            check.unchanged("emit to a full one in state " + state, machine, before);
        }
    }

    /** clearOutput may answer the numbers of REFUSED, FULL, HEIGHT and INVALID, and empties the output all the same. */
    private static void aCountIsNoRefusal(Check check) {
        for (int count : new int[] {DeoptMachine.FULL, DeoptMachine.HEIGHT, DeoptMachine.INVALID}) {
            DeoptMachine machine = new DeoptMachine(2, 8, 2, 1);
            Programs.define(machine, 0, Op.LOAD, 0, Op.PRINT, 0, Op.JUMP, 0);
            machine.start(0, 5, 0);
            machine.run(count - 1);
            check.due("clearOutput", machine.clearOutput(), count);
            check.due("cells after an answer of " + count, machine.status(3), 0);
        }
    }

    private static void gettersChangeNothing(Check check) {
        int[] odd = {Integer.MIN_VALUE, -1, 0, 1, 2, 3, 4, 7, 8, 12, 13, 16, 32, Integer.MAX_VALUE};
        for (int state : STATES) {
            DeoptMachine machine = Programs.inState(state);
            int[] before = Readings.of(machine);
            for (int i : odd) {
                machine.global(i);
                machine.assumed(i);
                machine.status(i);
                machine.output(i);
                for (int j : odd) {
                    machine.frame(i, j);
                    for (int k : odd) {
                        machine.code(i, j, k);
                    }
                }
            }
            check.unchanged("the getters in state " + state, machine, before);
        }
    }

    private static void anyCallInAnyState(Check check) {
        for (int state : STATES) {
            boolean active = state == DeoptMachine.ACTIVE;
            String in = " in state " + state;
            int ok = DeoptMachine.OK;
            check.due("state", Programs.inState(state).status(0), state);
            check.due("emit" + in, Programs.inState(state).emit(2, Op.JUMP, 2), ok);
            DeoptMachine machine = Programs.inState(state);
            machine.emit(2, Op.JUMP, 2);
            check.due("seal" + in, machine.seal(2), ok);
            check.due("erase" + in, Programs.inState(state).erase(3), ok);
            check.due("code" + in, Programs.inState(state).code(2, 1, 0), 5);
            check.due("start" + in, Programs.inState(state).start(3, 0, 0), active ? DeoptMachine.REFUSED : ok);
            check.due("run" + in, Programs.inState(state).run(1), active ? DeoptMachine.PAUSED : DeoptMachine.REFUSED);
            check.due("abandon" + in, Programs.inState(state).abandon(), active ? ok : DeoptMachine.REFUSED);
            check.due("setGlobal" + in, Programs.inState(state).setGlobal(0, 1), ok);
            check.due("global" + in, Programs.inState(state).global(1), 11);
            check.due("optimise" + in, Programs.inState(state).optimise(0), ok);
            check.due("assume" + in, Programs.inState(state).assume(0), ok);
            check.due("assumed" + in, Programs.inState(state).assumed(1), true);
            check.due("status" + in, Programs.inState(state).status(1), 41);
            check.due("frame" + in, Programs.inState(state).frame(0, 3), active ? 7 : 0);
            check.due("output" + in, Programs.inState(state).output(1), 9);
            check.due("clearOutput" + in, Programs.inState(state).clearOutput(), 2);
        }
    }

    private static void orderInEmit(Check check) {
        DeoptMachine machine = new DeoptMachine(3, 8, 2, 1);
        Programs.define(machine, 0, Op.JUMP, 0, Op.JUMP, 0, Op.JUMP, 0, Op.JUMP, 0, Op.JUMP, 0, Op.JUMP, 0, Op.JUMP, 0,
                Op.JUMP, 0);
        check.due("sealed before full", machine.emit(0, Op.JUMP, 0), DeoptMachine.REFUSED);
        Programs.feed(machine, 1, Op.JUMP, 0, Op.JUMP, 0, Op.JUMP, 0, Op.JUMP, 0, Op.JUMP, 0, Op.JUMP, 0, Op.JUMP, 0,
                Op.JUMP, 0);
        check.due("op before full", machine.emit(1, 17, 0), DeoptMachine.REFUSED);
        check.due("operand before full", machine.emit(1, Op.JUMP, 8), DeoptMachine.REFUSED);
        check.due("full before height", machine.emit(1, Op.RET, 0), DeoptMachine.FULL);
        check.due("operand before height", machine.emit(2, Op.JUMP_IF, 8), DeoptMachine.REFUSED);
    }

    private static void orderInSeal(Check check) {
        DeoptMachine machine = new DeoptMachine(3, 8, 2, 1);
        check.due("no function before empty", machine.seal(3), DeoptMachine.REFUSED);
        check.due("empty", machine.seal(2), DeoptMachine.INVALID);
    }

    private static void orderInStart(Check check) {
        check.due("active before not sealed", Programs.busy().start(2, 0, 0), DeoptMachine.REFUSED);
        check.due("not sealed", Programs.inState(DeoptMachine.IDLE).start(2, 0, 0), DeoptMachine.MISSING);
        check.due("no function before not sealed", Programs.inState(DeoptMachine.DONE).start(4, 0, 0), DeoptMachine.REFUSED);
    }

    private static void orderInRun(Check check) {
        DeoptMachine machine = new DeoptMachine(2, 8, 2, 1);
        Programs.define(machine, 0, Op.CALL0, 0, Op.CALL1, 0, Op.RET, 0);
        machine.start(0, 0, 0);
        check.due("n before the stop", machine.run(0), DeoptMachine.REFUSED);
        check.due("credit before depth", machine.run(1), DeoptMachine.PAUSED);
        check.due("depth", machine.run(1), DeoptMachine.DEPTH);
    }
}
