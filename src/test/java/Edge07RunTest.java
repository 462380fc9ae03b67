import java.io.IOException;

/** The edges of Promise 7: run. */
public final class Edge07RunTest {
    private static final String CREDIT = "Else credit is n, or 64 if n > 64, and the steps below repeat until one of them "
            + "stops (one always does: a slice takes fewer than 20,000 steps).";
    private static final String COSTS = "If the instruction is CALL0, CALL1 or CALL2, or it is JUMP or JUMP_IF with operand "
            + "<= p (jumping or not): if credit is 0, stop with `PAUSED`; else credit falls by 1.";
    private static final String FREE = "All other instructions, forward jumps and RET among them, cost no credit and are "
            + "carried out also when credit is 0.";
    private static final String CALL = "A call pops its arguments (CALL2 pops b, then a; CALL1 pops a; CALL0 pops nothing), "
            + "the caller's position becomes p + 1, and a new top frame is made: the called function, position 0, local 0 is "
            + "a, local 1 is b, locals not given are 0, nothing pending.";
    private static final String STOPPED = "In every stop except `FINISHED` the state stays `ACTIVE`, the top frame is just "
            + "before the instruction at p with all its pending values in place (arguments of a call, operands of DIV and the "
            + "value of PRINT included), and all effects of the instructions executed before it remain.";
    private static final String LOST = "Unspent credit is lost, and so is credit spent in step 1 on a call that then stops in "
            + "step 2.";
    private static final String STEP_ONE_FIRST = "Because step 1 comes first, a call met with credit 0 stops with `PAUSED` "
            + "even if it would otherwise stop with `MISSING` or `DEPTH`.";
    private static final String APART = "Apart from the effects named here (frames, globals, marks, failures, output, result "
            + "and state) a run changes nothing; the code of functions and their sealed marks stay.";

    public static void main(String[] args) throws IOException {
        Edges edges = new Edges(7);
        edges.holds("`REFUSED` if n < 1; `REFUSED` if the state is not `ACTIVE`.", Edge07RunTest::tooSmall);
        edges.holds("`REFUSED` if n < 1; `REFUSED` if the state is not `ACTIVE`.", Edge07RunTest::notActive);
        edges.holds(CREDIT, Edge07RunTest::creditIsN);
        edges.holds(CREDIT, Edge07RunTest::creditIsAtMost64);
        edges.holds(CREDIT, Edge07RunTest::longestSlice);
        edges.holds(COSTS, Edge07RunTest::callsCost);
        edges.holds(COSTS, Edge07RunTest::backwardJumpsCost);
        edges.holds(COSTS, Edge07RunTest::jumpsToThemselvesCost);
        edges.holds(COSTS, Edge07RunTest::jumpsNotTakenCost);
        edges.holds(FREE, Edge07RunTest::forwardJumpsAreFree);
        edges.holds(FREE, Edge07RunTest::everythingElseIsFree);
        edges.holds(FREE, Edge07RunTest::everyReturnIsFree);
        edges.holds("**Step 2, stops.** In this order:", Edge07RunTest::missingBeforeDepth);
        edges.holds("If it is a call and the function in its operand is not sealed, stop with `MISSING`.",
                Edge07RunTest::missing);
        edges.holds("If it is a call and there are `depth` frames, stop with `DEPTH`.", Edge07RunTest::depth);
        edges.holds("If it is DIV and the topmost pending value is 0, stop with `DIVIDE`.", Edge07RunTest::divide);
        edges.holds("If it is PRINT and the output has 16 cells, stop with `OUTPUT_FULL`.", Edge07RunTest::outputFull);
        edges.holds("The position becomes p + 1, or the operand if it jumps.", Edge07RunTest::positions);
        edges.holds(CALL, Edge07RunTest::calls);
        edges.holds(CALL, Edge07RunTest::callAtAFullStack);
        edges.holds("A function may call itself.", Edge07RunTest::callsItself);
        edges.holds("RET pops v and drops the top frame.", Edge07RunTest::returnDropsTheFrame);
        edges.holds("If a frame is left, v is pushed on its pending stack and it goes on at its own position.",
                Edge07RunTest::returnToACaller);
        edges.holds("If none is left, the result becomes v, the state becomes `DONE`, and the slice stops with `FINISHED`.",
                Edge07RunTest::lastReturn);
        edges.holds("PUT writes the global by the rule in Promise 8, so it can break an assumption in the middle of a run.",
                Edge07RunTest::putBreaksAnAssumption);
        edges.holds("The run goes on with its plain meaning.", Edge07RunTest::goesOnAfterABreak);
        edges.holds(STOPPED, Edge07RunTest::stoppedBeforeCalls);
        edges.holds(STOPPED, Edge07RunTest::stoppedBeforeDiv);
        edges.holds(STOPPED, Edge07RunTest::stoppedBeforePrint);
        edges.holds(STOPPED, Edge07RunTest::stoppedBeforeJumps);
        edges.holds("The next run begins with that instruction, with new credit, and may stop there again.",
                Edge07RunTest::stopsThereAgain);
        edges.holds(LOST, Edge07RunTest::unspentCreditIsLost);
        edges.holds(LOST, Edge07RunTest::creditOfAStoppedCallIsLost);
        edges.holds(STEP_ONE_FIRST, Edge07RunTest::pausedBeforeMissing);
        edges.holds(STEP_ONE_FIRST, Edge07RunTest::pausedBeforeDepth);
        edges.holds(APART, Edge07RunTest::codeStays);
        edges.holds(APART, Edge07RunTest::onlyWhatTheInstructionsDo);
        edges.holds("The result changes only at `FINISHED`.", Edge07RunTest::resultOnlyAtTheEnd);
        edges.end();
    }

    private static void tooSmall(Check check) {
        for (int state = DeoptMachine.IDLE; state <= DeoptMachine.DONE; state++) {
            DeoptMachine machine = Programs.inState(state);
            int[] before = Readings.of(machine);
            for (int n : new int[] {0, -1, -64, Integer.MIN_VALUE}) {
                check.due("run(" + n + ") in state " + state, machine.run(n), DeoptMachine.REFUSED);
            }
            check.unchanged("run below 1", machine, before);
        }
        check.due("run(1)", Programs.busy().run(1), DeoptMachine.PAUSED);
    }

    private static void notActive(Check check) {
        check.due("run at first", new DeoptMachine(2, 8, 2, 1).run(1), DeoptMachine.REFUSED);
        for (int state : new int[] {DeoptMachine.IDLE, DeoptMachine.DONE}) {
            DeoptMachine machine = Programs.inState(state);
            int[] before = Readings.of(machine);
            for (int n : new int[] {1, 64, 65, Integer.MAX_VALUE}) {
                check.due("run(" + n + ") in state " + state, machine.run(n), DeoptMachine.REFUSED);
            }
            check.unchanged("run in state " + state, machine, before);
        }
    }

    /** Started: a loop that counts its rounds in global 0 and ends after so many rounds. */
    private static DeoptMachine looping(int rounds) {
        DeoptMachine machine = new DeoptMachine(2, 16, 2, 1);
        Programs.define(machine, 0, Op.GET, 0, Op.PUSH, 1, Op.ADD, 0, Op.PUT, 0, Op.LOAD, 0, Op.PUSH, 1, Op.SUB, 0,
                Op.STORE, 0, Op.LOAD, 0, Op.JUMP_IF, 0, Op.GET, 0, Op.RET, 0);
        machine.start(0, rounds, 0);
        return machine;
    }

    private static void creditIsN(Check check) {
        for (int n = 1; n <= 64; n++) {
            DeoptMachine machine = looping(1000);
            check.due("run(" + n + ")", machine.run(n), DeoptMachine.PAUSED);
            check.due("rounds in run(" + n + ")", machine.global(0), n + 1);
            check.due("run(" + n + ") of so many rounds", looping(n).run(n), DeoptMachine.FINISHED);
            check.due("run(" + n + ") of one round more", looping(n + 1).run(n), DeoptMachine.PAUSED);
        }
    }

    private static void creditIsAtMost64(Check check) {
        for (int n : new int[] {64, 65, 66, 128, 1 << 16, Integer.MAX_VALUE}) {
            DeoptMachine machine = looping(1000);
            check.due("run(" + n + ")", machine.run(n), DeoptMachine.PAUSED);
            check.due("rounds in run(" + n + ")", machine.global(0), 65);
            check.due("run(" + n + ") of 64 rounds", looping(64).run(n), DeoptMachine.FINISHED);
            check.due("run(" + n + ") of 65 rounds", looping(65).run(n), DeoptMachine.PAUSED);
        }
    }

    /** 64 rounds of a list of 32 instructions at the deepest frame, and then the rest of all waiting callers. */
    private static void longestSlice(Check check) {
        for (int n : new int[] {63, 64, 65, Integer.MAX_VALUE}) {
            DeoptMachine machine = deepLoop();
            check.due("to the loop", machine.run(7), DeoptMachine.PAUSED);
            check.due("frames", machine.status(2), 8);
            check.due("64 rounds with run(" + n + ")", machine.run(n), n < 64 ? DeoptMachine.PAUSED : DeoptMachine.FINISHED);
            check.due("result", machine.status(1), n < 64 ? 0 : 12);
        }
    }

    /** Function 0 calls itself seven deep, then function 1, which loops 64 times; each caller adds 1 to its answer of 5. */
    private static DeoptMachine deepLoop() {
        DeoptMachine machine = new DeoptMachine(2, 32, 8, 1);
        Programs.feed(machine, 0, Op.LOAD, 0, Op.JUMP_IF, 6, Op.PUSH, 64, Op.CALL1, 1, Op.STORE, 1, Op.JUMP, 11,
                Op.LOAD, 0, Op.PUSH, 1, Op.SUB, 0, Op.CALL1, 0, Op.STORE, 1);
        for (int i = 0; i < 8; i++) {
            Programs.feed(machine, 0, Op.PUSH, i, Op.STORE, 2);
        }
        Programs.define(machine, 0, Op.LOAD, 1, Op.PUSH, 1, Op.ADD, 0, Op.RET, 0);
        Programs.feed(machine, 1, Op.LOAD, 0, Op.PUSH, 1, Op.SUB, 0, Op.STORE, 0);
        for (int i = 0; i < 12; i++) {
            Programs.feed(machine, 1, Op.PUSH, i, Op.STORE, 2);
        }
        Programs.define(machine, 1, Op.LOAD, 0, Op.JUMP_IF, 0, Op.PUSH, 5, Op.RET, 0);
        machine.start(0, 6, 0);
        return machine;
    }

    private static void callsCost(Check check) {
        for (int op = Op.CALL0; op <= Op.CALL2; op++) {
            DeoptMachine machine = new DeoptMachine(2, 16, 2, 1);
            Programs.define(machine, 1, Op.PUSH, 4, Op.RET, 0);
            Programs.feed(machine, 0, Op.PUSH, 1, Op.PUSH, 2, op, 1, Op.PUSH, 3, op, 1);
            closeWithReturn(machine, 0);
            machine.start(0, 0, 0);
            check.due("the first, op " + op, machine.run(1), DeoptMachine.PAUSED);
            check.due("position of the second", machine.frame(0, 1), 4);
            check.due("the second", machine.run(1), DeoptMachine.FINISHED);
            machine.start(0, 0, 0);
            check.due("both", machine.run(2), DeoptMachine.FINISHED);
        }
    }

    /** Adds up what is pending until RET fits, and seals. */
    private static void closeWithReturn(DeoptMachine machine, int f) {
        while (machine.emit(f, Op.RET, 0) == DeoptMachine.HEIGHT) {
            Programs.feed(machine, f, Op.ADD, 0);
        }
        if (machine.seal(f) != DeoptMachine.OK) {
            throw new IllegalStateException("not sealed");
        }
    }

    private static void backwardJumpsCost(Check check) {
        DeoptMachine machine = new DeoptMachine(2, 8, 2, 1);
        Programs.define(machine, 0, Op.JUMP, 2, Op.JUMP, 4, Op.PUSH, 1, Op.JUMP_IF, 1, Op.JUMP, 0);
        machine.start(0, 0, 0);
        check.due("JUMP_IF back, then JUMP back", machine.run(1), DeoptMachine.PAUSED);
        check.due("before the JUMP back", machine.frame(0, 1), 4);
        check.due("JUMP back, then JUMP_IF back", machine.run(1), DeoptMachine.PAUSED);
        check.frameDue("before the JUMP_IF back", machine, 0, 0, 3, 1, 0, 0, 0, 0, 1);
        check.due("both", machine.run(2), DeoptMachine.PAUSED);
        check.due("before the JUMP_IF back again", machine.frame(0, 1), 3);
    }

    private static void jumpsToThemselvesCost(Check check) {
        DeoptMachine machine = new DeoptMachine(2, 8, 2, 1);
        Programs.define(machine, 0, Op.PUSH, 1, Op.STORE, 0, Op.JUMP, 2);
        machine.start(0, 0, 0);
        for (int n : new int[] {1, 2, 64, Integer.MAX_VALUE}) {
            check.due("run(" + n + ")", machine.run(n), DeoptMachine.PAUSED);
            check.frameDue("JUMP to itself", machine, 0, 0, 2, 0, 1);
        }
    }

    private static void jumpsNotTakenCost(Check check) {
        for (int n = 1; n <= 3; n++) {
            DeoptMachine machine = new DeoptMachine(2, 8, 2, 1);
            Programs.define(machine, 0, Op.PUSH, 0, Op.JUMP_IF, 0, Op.PUSH, 0, Op.JUMP_IF, 2, Op.PUSH, 0, Op.JUMP_IF, 4,
                    Op.PUSH, 5, Op.RET, 0);
            machine.start(0, 0, 0);
            check.due("three not taken, run(" + n + ")", machine.run(n), n < 3 ? DeoptMachine.PAUSED : DeoptMachine.FINISHED);
            check.due("position", machine.frame(0, 1), n < 3 ? 2 * n + 1 : 0);
        }
    }

    /** At credit 0, for the first JUMP_IF has spent the only one: a jump to the very next position is forward. */
    private static void forwardJumpsAreFree(Check check) {
        DeoptMachine machine = new DeoptMachine(2, 32, 2, 1);
        Programs.define(machine, 0, Op.PUSH, 0, Op.JUMP_IF, 0, Op.JUMP, 3, Op.JUMP, 5, Op.JUMP, 4, Op.PUSH, 1,
                Op.JUMP_IF, 7, Op.PUSH, -1, Op.JUMP_IF, 10, Op.JUMP, 9, Op.PUSH, 0, Op.JUMP_IF, 12, Op.PUSH, 0,
                Op.JUMP_IF, 9, Op.PUSH, 8, Op.RET, 0);
        machine.start(0, 0, 0);
        check.due("forward jumps, then one back", machine.run(1), DeoptMachine.PAUSED);
        check.due("before the one back", machine.frame(0, 1), 13);
        check.due("the one back", machine.run(1), DeoptMachine.FINISHED);
    }

    private static void everythingElseIsFree(Check check) {
        DeoptMachine machine = new DeoptMachine(2, 32, 2, 1);
        Programs.define(machine, 0, Op.PUSH, 0, Op.JUMP_IF, 0, Op.PUSH, 20, Op.LOAD, 0, Op.ADD, 0, Op.PUSH, 3, Op.SUB, 0,
                Op.PUSH, 2, Op.MUL, 0, Op.PUSH, 4, Op.DIV, 0, Op.STORE, 3, Op.LOAD, 3, Op.PRINT, 0, Op.LOAD, 3, Op.PUT, 7,
                Op.GET, 7, Op.PUSH, 99, Op.LESS, 0, Op.RET, 0);
        machine.start(0, 5, 0);
        check.due("all at credit 0", machine.run(1), DeoptMachine.FINISHED);
        check.due("output", machine.output(0), 11);
        check.due("global", machine.global(7), 11);
        check.due("result", machine.status(1), 1);
    }

    private static void everyReturnIsFree(Check check) {
        DeoptMachine machine = new DeoptMachine(2, 16, 8, 1);
        Programs.define(machine, 0, Op.LOAD, 0, Op.JUMP_IF, 4, Op.PUSH, 100, Op.RET, 0, Op.LOAD, 0, Op.PUSH, 1, Op.SUB, 0,
                Op.CALL1, 0, Op.LOAD, 0, Op.ADD, 0, Op.RET, 0);
        machine.start(0, 7, 0);
        check.due("seven calls, eight returns", machine.run(7), DeoptMachine.FINISHED);
        check.due("result", machine.status(1), 128);
    }

    private static void missingBeforeDepth(Check check) {
        DeoptMachine machine = new DeoptMachine(3, 8, 2, 1);
        Programs.define(machine, 0, Op.CALL0, 1, Op.RET, 0);
        Programs.define(machine, 1, Op.CALL0, 2, Op.RET, 0);
        machine.start(0, 0, 0);
        check.due("not sealed and too deep", machine.run(2), DeoptMachine.MISSING);
        Programs.define(machine, 2, Op.PUSH, 1, Op.RET, 0);
        check.due("too deep alone", machine.run(2), DeoptMachine.DEPTH);
    }

    private static void missing(Check check) {
        for (int op = Op.CALL0; op <= Op.CALL2; op++) {
            for (int f = 0; f < 8; f += 7) {
                DeoptMachine machine = new DeoptMachine(8, 16, 2, 1);
                Programs.feed(machine, 3, Op.PUSH, 1, Op.PUSH, 2, op, f);
                closeWithReturn(machine, 3);
                machine.start(3, 0, 0);
                check.due("an empty one, op " + op, machine.run(1), DeoptMachine.MISSING);
                Programs.feed(machine, f, Op.PUSH, 9, Op.RET, 0);
                check.due("one not sealed, op " + op, machine.run(1), DeoptMachine.MISSING);
                machine.seal(f);
                check.due("a sealed one, op " + op, machine.run(1), DeoptMachine.FINISHED);
            }
        }
    }

    private static void depth(Check check) {
        for (int op = Op.CALL0; op <= Op.CALL2; op++) {
            for (int depth = 2; depth <= 8; depth++) {
                DeoptMachine machine = new DeoptMachine(2, 16, depth, 1);
                Programs.feed(machine, 0, Op.PUSH, 1, Op.PUSH, 2, op, 0);
                closeWithReturn(machine, 0);
                machine.start(0, 0, 0);
                check.due("as many calls as fit", machine.run(depth - 1), DeoptMachine.PAUSED);
                check.due("frames", machine.status(2), depth);
                check.due("one call more", machine.run(1), DeoptMachine.DEPTH);
                check.due("frames still", machine.status(2), depth);
            }
        }
    }

    private static void divide(Check check) {
        for (int a : new int[] {Integer.MIN_VALUE, -1, 0, 1, Integer.MAX_VALUE}) {
            for (int b : new int[] {Integer.MIN_VALUE, -1, 0, 1, Integer.MAX_VALUE}) {
                DeoptMachine machine = new DeoptMachine(2, 8, 2, 1);
                Programs.define(machine, 0, Op.LOAD, 0, Op.LOAD, 1, Op.DIV, 0, Op.RET, 0);
                machine.start(0, a, b);
                check.due(a + " / " + b, machine.run(1), b == 0 ? DeoptMachine.DIVIDE : DeoptMachine.FINISHED);
            }
        }
    }

    private static void outputFull(Check check) {
        for (int count = 0; count <= 16; count++) {
            DeoptMachine machine = printed(count);
            Programs.define(machine, 0, Op.PUSH, 7, Op.PRINT, 0, Op.PUSH, 8, Op.RET, 0);
            machine.start(0, 0, 0);
            int want = count < 16 ? DeoptMachine.FINISHED : DeoptMachine.OUTPUT_FULL;
            check.due("PRINT with " + count + " cells", machine.run(1), want);
            check.due("cells", machine.status(3), count < 16 ? count + 1 : 16);
            check.due("the last cell", machine.output(15), count < 15 ? 0 : count == 15 ? 7 : 3);
        }
    }

    /** A machine that has printed so many cells, each 3. Function 0 is empty. */
    private static DeoptMachine printed(int count) {
        DeoptMachine machine = new DeoptMachine(2, 32, 2, 1);
        Programs.define(machine, 1, Op.PUSH, 3, Op.PRINT, 0, Op.LOAD, 0, Op.PUSH, 1, Op.SUB, 0, Op.STORE, 0, Op.LOAD, 0,
                Op.JUMP_IF, 0, Op.PUSH, 0, Op.RET, 0);
        if (count > 0) {
            machine.start(1, count, 0);
            machine.run(64);
        }
        return machine;
    }

    private static void positions(Check check) {
        DeoptMachine machine = new DeoptMachine(2, 32, 2, 1);
        for (int i = 0; i < 15; i++) {
            Programs.feed(machine, 0, Op.PUSH, i, Op.STORE, 2);
        }
        Programs.define(machine, 0, Op.JUMP, 31, Op.JUMP, 0);
        machine.start(0, 0, 0);
        check.due("one by one to the end of the longest list", machine.run(1), DeoptMachine.PAUSED);
        check.frameDue("at its end", machine, 0, 0, 31, 0, 0, 0, 14);
        for (int value = -1; value <= 1; value++) {
            machine = new DeoptMachine(2, 8, 2, 1);
            Programs.define(machine, 0, Op.LOAD, 0, Op.JUMP_IF, 3, Op.JUMP, 2, Op.JUMP, 3);
            machine.start(0, value, 0);
            machine.run(1);
            check.due("JUMP_IF with " + value, machine.frame(0, 1), value == 0 ? 2 : 3);
        }
    }

    private static void calls(Check check) {
        int[][] rows = {{Op.CALL0, 0, 0, 2}, {Op.CALL1, 40, 0, 1}, {Op.CALL2, 30, 40, 0}};
        for (int[] row : rows) {
            DeoptMachine machine = new DeoptMachine(3, 32, 3, 1);
            Programs.define(machine, 1, Op.JUMP, 0);
            // Fills the locals and the pending stack where the frame of the callee will be.
            Programs.define(machine, 2, Op.PUSH, 9, Op.STORE, 0, Op.PUSH, 9, Op.STORE, 1, Op.PUSH, 9, Op.STORE, 2, Op.PUSH, 9,
                    Op.STORE, 3, Op.PUSH, 9, Op.PUSH, 9, Op.PUSH, 9, Op.ADD, 0, Op.ADD, 0, Op.RET, 0);
            Programs.feed(machine, 0, Op.CALL0, 2, Op.STORE, 3, Op.PUSH, 30, Op.PUSH, 40, row[0], 1);
            closeWithReturn(machine, 0);
            machine.start(0, 5, 6);
            check.due("both calls", machine.run(2), DeoptMachine.PAUSED);
            check.frameDue("callee of op " + row[0], machine, 1, 1, 0, 0, row[1], row[2]);
            check.frameDue("caller with op " + row[0], machine, 0, 0, 5, row[3], 5, 6, 0, 27, row[3] > 0 ? 30 : 0,
                    row[3] > 1 ? 40 : 0);
        }
    }

    /** A full stack gives CALL1 and CALL2 their arguments; CALL0 fills the last cell with what is returned. */
    private static void callAtAFullStack(Check check) {
        int[][] rows = {{Op.CALL0, 5, 0, 0}, {Op.CALL1, 6, 6, 0}, {Op.CALL2, 6, 5, 6}};
        for (int[] row : rows) {
            DeoptMachine machine = new DeoptMachine(2, 32, 2, 1);
            Programs.define(machine, 1, Op.LOAD, 0, Op.PUT, 0, Op.LOAD, 1, Op.PUT, 1, Op.PUSH, 100, Op.RET, 0);
            for (int i = 1; i <= row[1]; i++) {
                Programs.feed(machine, 0, Op.PUSH, i);
            }
            Programs.feed(machine, 0, row[0], 1);
            closeWithReturn(machine, 0);
            machine.start(0, 0, 0);
            check.due("run, op " + row[0], machine.run(1), DeoptMachine.FINISHED);
            check.due("argument a of op " + row[0], machine.global(0), row[2]);
            check.due("argument b of op " + row[0], machine.global(1), row[3]);
            int below = row[1] - (row[0] - Op.CALL0);
            check.due("sum with op " + row[0], machine.status(1), 100 + below * (below + 1) / 2);
        }
    }

    private static void callsItself(Check check) {
        DeoptMachine machine = new DeoptMachine(2, 16, 8, 1);
        Programs.define(machine, 0, Op.LOAD, 0, Op.JUMP_IF, 4, Op.PUSH, 1, Op.RET, 0, Op.LOAD, 0, Op.LOAD, 0, Op.PUSH, 1,
                Op.SUB, 0, Op.CALL1, 0, Op.MUL, 0, Op.RET, 0);
        machine.start(0, 7, 0);
        check.due("run", machine.run(64), DeoptMachine.FINISHED);
        check.due("7!", machine.status(1), 5040);
        machine.start(0, 8, 0);
        check.due("one frame too many", machine.run(64), DeoptMachine.DEPTH);
    }

    /** Function 0 waits with 60 pending for function 1, which returns -5; then a call of an empty function stops it. */
    private static DeoptMachine returned(Check check) {
        DeoptMachine machine = new DeoptMachine(3, 16, 3, 1);
        Programs.define(machine, 1, Op.PUSH, -5, Op.RET, 0);
        Programs.define(machine, 0, Op.PUSH, 60, Op.CALL0, 1, Op.CALL2, 2, Op.RET, 0);
        machine.start(0, 3, 4);
        check.due("run", machine.run(2), DeoptMachine.MISSING);
        return machine;
    }

    private static void returnDropsTheFrame(Check check) {
        DeoptMachine machine = returned(check);
        check.due("frames", machine.status(2), 1);
        check.frameDue("the dropped one", machine, 1);
        check.due("its function can be erased", machine.erase(1), DeoptMachine.OK);
    }

    private static void returnToACaller(Check check) {
        check.frameDue("the caller", returned(check), 0, 0, 2, 2, 3, 4, 0, 0, 60, -5);
    }

    private static void lastReturn(Check check) {
        for (int value : new int[] {Integer.MIN_VALUE, -1, 0, 1, Integer.MAX_VALUE}) {
            DeoptMachine machine = new DeoptMachine(2, 8, 2, 1);
            Programs.define(machine, 0, Op.LOAD, 0, Op.RET, 0);
            machine.start(0, value, 0);
            check.due("run", machine.run(1), DeoptMachine.FINISHED);
            check.due("result", machine.status(1), value);
            check.due("state", machine.status(0), DeoptMachine.DONE);
            check.due("frames", machine.status(2), 0);
        }
    }

    /** Puts local 0 into global 3, which is 50 and assumed, and is stopped after that with 50 still pending. */
    private static DeoptMachine putting(Check check, int value) {
        DeoptMachine machine = new DeoptMachine(2, 16, 2, 1);
        Programs.define(machine, 0, Op.GET, 3, Op.LOAD, 0, Op.PUT, 3, Op.CALL0, 1, Op.GET, 3, Op.SUB, 0, Op.SUB, 0,
                Op.RET, 0);
        machine.setGlobal(3, 50);
        machine.assume(3);
        machine.optimise(0);
        machine.start(0, value, 0);
        check.due("run to the call", machine.run(1), DeoptMachine.MISSING);
        return machine;
    }

    private static void putBreaksAnAssumption(Check check) {
        DeoptMachine equal = putting(check, 50);
        check.due("mark after an equal value", equal.assumed(3), true);
        check.due("failures after an equal value", equal.status(4), 0);
        DeoptMachine other = putting(check, 51);
        check.due("mark after another value", other.assumed(3), false);
        check.due("failures after another value", other.status(4), 1);
        check.due("the value", other.global(3), 51);
    }

    private static void goesOnAfterABreak(Check check) {
        DeoptMachine machine = putting(check, 8);
        check.frameDue("after the break", machine, 0, 0, 3, 1, 8, 0, 0, 0, 50);
        Programs.define(machine, 1, Op.GET, 3, Op.RET, 0);
        check.due("the rest", machine.run(1), DeoptMachine.FINISHED);
        check.due("50 - (8 - 8)", machine.status(1), 50);
    }

    /** Function 0 reaches the op at position 7 with 60, 61 and the topmost value pending, and has spent one credit. */
    private static void reach(DeoptMachine machine, int op, int operand, int topmost) {
        Programs.feed(machine, 0, Op.PUSH, 0, Op.JUMP_IF, 0, Op.PUSH, 77, Op.PUT, 0, Op.PUSH, 60, Op.PUSH, 61,
                Op.PUSH, topmost, op, operand);
        closeWithReturn(machine, 0);
    }

    /** Frame d is function 0, started with 11 and 12, just before that op, and what it did before remains. */
    private static void reached(Check check, String what, DeoptMachine machine, int d, int topmost) {
        check.due(what + ": state", machine.status(0), DeoptMachine.ACTIVE);
        check.due(what + ": frames", machine.status(2), d + 1);
        check.frameDue(what, machine, d, 0, 7, 3, 11, 12, 0, 0, 60, 61, topmost);
        check.due(what + ": the effect before it", machine.global(0), 77);
    }

    /** Before a call: of an empty function in frame 0, or of a sealed one in the last frame that fits. */
    private static DeoptMachine beforeCall(int op, boolean deep) {
        DeoptMachine machine = new DeoptMachine(3, 32, 2, 1);
        reach(machine, op, 1, 62);
        if (deep) {
            Programs.define(machine, 1, Op.PUSH, 9, Op.RET, 0);
            Programs.define(machine, 2, Op.PUSH, 11, Op.PUSH, 12, Op.CALL2, 0, Op.RET, 0);
        }
        machine.start(deep ? 2 : 0, 11, 12);
        return machine;
    }

    private static DeoptMachine beforeDiv() {
        DeoptMachine machine = new DeoptMachine(2, 32, 2, 1);
        reach(machine, Op.DIV, 0, 0);
        machine.start(0, 11, 12);
        return machine;
    }

    private static DeoptMachine beforePrint() {
        DeoptMachine machine = printed(16);
        reach(machine, Op.PRINT, 0, 62);
        machine.start(0, 11, 12);
        return machine;
    }

    private static void stoppedBeforeCalls(Check check) {
        for (int op = Op.CALL0; op <= Op.CALL2; op++) {
            DeoptMachine machine = beforeCall(op, false);
            check.due("op " + op, machine.run(2), DeoptMachine.MISSING);
            reached(check, "MISSING at op " + op, machine, 0, 62);
            machine = beforeCall(op, false);
            check.due("op " + op, machine.run(1), DeoptMachine.PAUSED);
            reached(check, "PAUSED at op " + op, machine, 0, 62);
            machine = beforeCall(op, true);
            check.due("op " + op, machine.run(3), DeoptMachine.DEPTH);
            reached(check, "DEPTH at op " + op, machine, 1, 62);
            check.frameDue("the caller", machine, 0, 2, 3, 0, 11, 12);
        }
    }

    private static void stoppedBeforeDiv(Check check) {
        DeoptMachine machine = beforeDiv();
        check.due("DIV", machine.run(1), DeoptMachine.DIVIDE);
        reached(check, "DIVIDE", machine, 0, 0);
    }

    private static void stoppedBeforePrint(Check check) {
        DeoptMachine machine = beforePrint();
        check.due("PRINT", machine.run(1), DeoptMachine.OUTPUT_FULL);
        reached(check, "OUTPUT_FULL", machine, 0, 62);
        check.due("cells", machine.status(3), 16);
        for (int i = 0; i < 16; i++) {
            check.due("cell " + i, machine.output(i), 3);
        }
    }

    private static void stoppedBeforeJumps(Check check) {
        DeoptMachine machine = new DeoptMachine(2, 8, 2, 1);
        Programs.define(machine, 0, Op.PUSH, 77, Op.PUT, 0, Op.JUMP, 0);
        Programs.define(machine, 1, Op.PUSH, 78, Op.PUT, 0, Op.LOAD, 0, Op.JUMP_IF, 0, Op.JUMP, 4);
        machine.start(0, 11, 12);
        check.due("JUMP", machine.run(1), DeoptMachine.PAUSED);
        check.frameDue("before JUMP", machine, 0, 0, 2, 0, 11, 12);
        check.due("the effect before it", machine.global(0), 77);
        machine.abandon();
        machine.start(1, 11, 12);
        check.due("JUMP_IF", machine.run(1), DeoptMachine.PAUSED);
        check.frameDue("before JUMP_IF", machine, 0, 1, 3, 1, 11, 12, 0, 0, 11);
        check.due("the effect before it", machine.global(0), 78);
    }

    private static void stopsThereAgain(Check check) {
        stopsThereAgain(check, beforeCall(Op.CALL2, false), 2, DeoptMachine.MISSING);
        stopsThereAgain(check, beforeCall(Op.CALL2, true), 3, DeoptMachine.DEPTH);
        stopsThereAgain(check, beforeDiv(), 1, DeoptMachine.DIVIDE);
        stopsThereAgain(check, beforePrint(), 1, DeoptMachine.OUTPUT_FULL);
        DeoptMachine machine = beforeCall(Op.CALL0, false);
        check.due("no credit left", machine.run(1), DeoptMachine.PAUSED);
        Programs.define(machine, 1, Op.PUSH, 9, Op.RET, 0);
        check.due("new credit", machine.run(1), DeoptMachine.FINISHED);
        check.due("60 + 61 + 62 + 9", machine.status(1), 192);
    }

    private static void stopsThereAgain(Check check, DeoptMachine machine, int n, int want) {
        check.due("at first", machine.run(n), want);
        int[] before = Readings.of(machine);
        for (int again : new int[] {1, 2, 64, Integer.MAX_VALUE}) {
            check.due("again with run(" + again + ")", machine.run(again), want);
            check.unchanged("stop " + want + " again", machine, before);
        }
    }

    private static void unspentCreditIsLost(Check check) {
        DeoptMachine machine = printed(16);
        Programs.define(machine, 0, Op.PUSH, 7, Op.PRINT, 0, Op.PUSH, 1, Op.JUMP_IF, 0, Op.JUMP, 4);
        machine.start(0, 0, 0);
        check.due("64 unspent", machine.run(64), DeoptMachine.OUTPUT_FULL);
        machine.clearOutput();
        check.due("with 1 new", machine.run(1), DeoptMachine.PAUSED);
        check.due("cells", machine.status(3), 2);
    }

    private static void creditOfAStoppedCallIsLost(Check check) {
        DeoptMachine machine = new DeoptMachine(2, 16, 2, 1);
        Programs.define(machine, 0, Op.CALL0, 1, Op.CALL1, 1, Op.CALL1, 1, Op.RET, 0);
        machine.start(0, 0, 0);
        for (int n = 1; n <= 3; n++) {
            check.due("run(" + n + ") of an empty one", machine.run(n), DeoptMachine.MISSING);
        }
        Programs.define(machine, 1, Op.PUSH, 4, Op.RET, 0);
        check.due("the same call costs again", machine.run(2), DeoptMachine.PAUSED);
        check.due("before the third call", machine.frame(0, 1), 2);
        check.due("the third call", machine.run(1), DeoptMachine.FINISHED);
    }

    private static void pausedBeforeMissing(Check check) {
        for (int op = Op.CALL0; op <= Op.CALL2; op++) {
            DeoptMachine machine = beforeCall(op, false);
            check.due("op " + op + " at credit 0", machine.run(1), DeoptMachine.PAUSED);
            check.due("op " + op + " at credit 1", machine.run(1), DeoptMachine.MISSING);
        }
    }

    private static void pausedBeforeDepth(Check check) {
        for (int op = Op.CALL0; op <= Op.CALL2; op++) {
            DeoptMachine machine = beforeCall(op, true);
            check.due("op " + op + " at credit 0", machine.run(2), DeoptMachine.PAUSED);
            check.due("op " + op + " at credit 1", machine.run(1), DeoptMachine.DEPTH);
        }
    }

    private static void codeStays(Check check) {
        DeoptMachine[] machines = {beforeCall(Op.CALL1, false), beforeCall(Op.CALL1, true), beforeDiv(), beforePrint(),
            looping(3), looping(100), Programs.busy(), deepLoop()};
        for (DeoptMachine machine : machines) {
            int[] before = Readings.of(machine);
            machine.run(5);
            machine.run(64);
            int[] now = Readings.of(machine);
            for (int i = 0; i < now.length; i++) {
                if (Readings.nameOf(i).startsWith("code(")) {
                    check.due(Readings.nameOf(i), now[i], before[i]);
                }
            }
        }
    }

    /** Sums that write no global and print nothing: the slice drops its frame and leaves its result. */
    private static void onlyWhatTheInstructionsDo(Check check) {
        DeoptMachine machine = printed(7);
        Programs.define(machine, 0, Op.GET, 6, Op.LOAD, 0, Op.ADD, 0, Op.STORE, 0, Op.LOAD, 1, Op.JUMP_IF, 8, Op.LOAD, 0,
                Op.RET, 0, Op.PUSH, 0, Op.STORE, 1, Op.JUMP, 0);
        for (int g = 0; g < 8; g++) {
            machine.assume(g);
            machine.setGlobal(g, 100 + g);
            machine.assume(g);
        }
        machine.start(0, 5, 1);
        machine.optimise(0);
        int[] before = Readings.of(machine);
        check.due("the only slice", machine.run(1), DeoptMachine.FINISHED);
        check.changedOnly("the only slice", machine, before, "status(0)", "status(1)", "status(2)", "frame(0, 3)",
                "frame(0, 4)");
        check.due("5 + 106 + 106", machine.status(1), 217);
    }

    private static void resultOnlyAtTheEnd(Check check) {
        DeoptMachine[] machines = {beforeCall(Op.CALL1, false), beforeCall(Op.CALL1, true), beforeDiv(), looping(3),
            looping(1000)};
        int[] wants = {DeoptMachine.MISSING, DeoptMachine.DEPTH, DeoptMachine.DIVIDE, DeoptMachine.FINISHED,
            DeoptMachine.PAUSED};
        for (int i = 0; i < machines.length; i++) {
            check.due("run", machines[i].run(5), wants[i]);
            check.due("result at stop " + wants[i], machines[i].status(1), wants[i] == DeoptMachine.FINISHED ? 3 : 0);
        }
        check.due("result after a value was returned to a caller", returned(check).status(1), 0);
        DeoptMachine machine = Programs.busy();
        for (int slice = 0; slice < 20; slice++) {
            machine.run(1 + slice % 3);
            check.due("result of the run before", machine.status(1), 41);
        }
    }
}
