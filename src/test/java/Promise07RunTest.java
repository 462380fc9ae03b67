/** Promise 7: run. */
public final class Promise07RunTest {
    private static final Check CHECK = new Check();

    public static void main(String[] args) {
        refusals();
        creditOfBackwardJumps();
        creditIsAtMost64();
        creditOfForwardJumps();
        jumpToItselfCosts();
        jumpIfNotTakenCosts();
        creditOfCalls();
        freeInstructionsAtCreditZero();
        missing();
        depth();
        missingComesBeforeDepth();
        divide();
        outputFull();
        pausedComesBeforeOtherStops();
        creditIsSpentOnAStoppedCall();
        argumentsOfCalls();
        returnToCaller();
        resultOnlyAtTheEnd();
        putInARun();
        longestSlice();
        CHECK.end();
    }

    private static void refusals() {
        DeoptMachine machine = Programs.busy();
        int[] before = Readings.of(machine);
        for (int n : new int[] {0, -1, Integer.MIN_VALUE}) {
            CHECK.due("run(" + n + ")", machine.run(n), DeoptMachine.REFUSED);
        }
        CHECK.unchanged("run below 1", machine, before);
        machine.abandon();
        before = Readings.of(machine);
        CHECK.due("run in IDLE", machine.run(1), DeoptMachine.REFUSED);
        CHECK.unchanged("run in IDLE", machine, before);
        machine.start(3, 0, 0);
        machine.run(1);
        before = Readings.of(machine);
        CHECK.due("run in DONE", machine.run(64), DeoptMachine.REFUSED);
        CHECK.unchanged("run in DONE", machine, before);
    }

    /** A loop that counts its rounds in global 0 and ends when local 0 is 0. */
    private static DeoptMachine looping(int rounds) {
        DeoptMachine machine = new DeoptMachine(2, 16, 2, 1);
        Programs.define(machine, 0, Op.GET, 0, Op.PUSH, 1, Op.ADD, 0, Op.PUT, 0, Op.LOAD, 0, Op.PUSH, 1, Op.SUB, 0,
                Op.STORE, 0, Op.LOAD, 0, Op.JUMP_IF, 0, Op.GET, 0, Op.RET, 0);
        machine.start(0, rounds, 0);
        return machine;
    }

    private static void creditOfBackwardJumps() {
        for (int n = 1; n <= 5; n++) {
            DeoptMachine machine = looping(5);
            CHECK.due("run(" + n + ") of 5 rounds", machine.run(n), n < 5 ? DeoptMachine.PAUSED : DeoptMachine.FINISHED);
            CHECK.due("rounds in run(" + n + ")", machine.global(0), n < 5 ? n + 1 : 5);
            if (n < 5) {
                CHECK.frameDue("paused", machine, 0, 0, 9, 1, 5 - n - 1, 0, 0, 0, 5 - n - 1);
            }
        }
        DeoptMachine machine = looping(5);
        CHECK.due("slice 1", machine.run(2), DeoptMachine.PAUSED);
        CHECK.due("slice 2", machine.run(2), DeoptMachine.PAUSED);
        CHECK.due("slice 3", machine.run(2), DeoptMachine.FINISHED);
        CHECK.due("result", machine.status(1), 5);
    }

    private static void creditIsAtMost64() {
        for (int n : new int[] {63, 64, 65, 128, Integer.MAX_VALUE}) {
            DeoptMachine machine = looping(1000);
            CHECK.due("run(" + n + ")", machine.run(n), DeoptMachine.PAUSED);
            CHECK.due("rounds in run(" + n + ")", machine.global(0), (n < 64 ? n : 64) + 1);
        }
    }

    private static void creditOfForwardJumps() {
        DeoptMachine machine = new DeoptMachine(2, 16, 2, 1);
        Programs.define(machine, 0, Op.JUMP, 1, Op.JUMP, 2, Op.PUSH, 1, Op.JUMP_IF, 4, Op.PUSH, 0, Op.JUMP_IF, 8,
                Op.JUMP, 8, Op.JUMP, 7, Op.PUSH, 9, Op.RET, 0);
        machine.start(0, 0, 0);
        CHECK.due("five forward jumps", machine.run(1), DeoptMachine.FINISHED);
        CHECK.due("result", machine.status(1), 9);
    }

    private static void jumpToItselfCosts() {
        DeoptMachine machine = new DeoptMachine(2, 16, 2, 1);
        Programs.define(machine, 0, Op.JUMP, 0);
        machine.start(0, 3, 4);
        int[] before = Readings.of(machine);
        for (int n : new int[] {1, 64, 1000}) {
            CHECK.due("JUMP to itself", machine.run(n), DeoptMachine.PAUSED);
        }
        CHECK.unchanged("JUMP to itself", machine, before);
    }

    private static void jumpIfNotTakenCosts() {
        DeoptMachine machine = new DeoptMachine(2, 16, 2, 1);
        Programs.define(machine, 0, Op.PUSH, 0, Op.JUMP_IF, 0, Op.PUSH, 0, Op.JUMP_IF, 2, Op.PUSH, 5, Op.RET, 0);
        machine.start(0, 0, 0);
        CHECK.due("two not taken, credit 1", machine.run(1), DeoptMachine.PAUSED);
        CHECK.frameDue("two not taken, credit 1", machine, 0, 0, 3, 1);
        CHECK.due("the second, credit 1", machine.run(1), DeoptMachine.FINISHED);
        machine.start(0, 0, 0);
        CHECK.due("two not taken, credit 2", machine.run(2), DeoptMachine.FINISHED);
    }

    private static void creditOfCalls() {
        DeoptMachine machine = new DeoptMachine(3, 16, 3, 1);
        Programs.define(machine, 1, Op.LOAD, 0, Op.LOAD, 1, Op.ADD, 0, Op.RET, 0);
        Programs.define(machine, 0, Op.CALL0, 1, Op.CALL1, 1, Op.PUSH, 3, Op.CALL2, 1, Op.RET, 0);
        machine.start(0, 0, 0);
        CHECK.due("three calls, credit 1", machine.run(1), DeoptMachine.PAUSED);
        CHECK.frameDue("three calls, credit 1", machine, 0, 0, 1, 1);
        CHECK.due("second call", machine.run(1), DeoptMachine.PAUSED);
        CHECK.frameDue("second call", machine, 0, 0, 3, 2, 0, 0, 0, 0, 0, 3);
        CHECK.due("third call", machine.run(1), DeoptMachine.FINISHED);
        CHECK.due("result", machine.status(1), 3);
        machine.start(0, 0, 0);
        CHECK.due("three calls, credit 3", machine.run(3), DeoptMachine.FINISHED);
    }

    private static void freeInstructionsAtCreditZero() {
        DeoptMachine machine = new DeoptMachine(2, 16, 3, 1);
        Programs.define(machine, 1, Op.PUSH, 8, Op.PRINT, 0, Op.PUSH, 9, Op.PUT, 3, Op.JUMP, 5, Op.PUSH, 6, Op.PUSH, 2,
                Op.DIV, 0, Op.RET, 0);
        Programs.define(machine, 0, Op.CALL0, 1, Op.STORE, 2, Op.LOAD, 2, Op.RET, 0);
        machine.start(0, 0, 0);
        CHECK.due("all after the call is free", machine.run(1), DeoptMachine.FINISHED);
        CHECK.due("result", machine.status(1), 3);
        CHECK.due("output", machine.output(0), 8);
        CHECK.due("global", machine.global(3), 9);
    }

    private static void missing() {
        DeoptMachine machine = new DeoptMachine(2, 16, 3, 1);
        Programs.define(machine, 0, Op.PUSH, 1, Op.PRINT, 0, Op.PUSH, 4, Op.PUSH, 5, Op.CALL2, 1, Op.RET, 0);
        Programs.feed(machine, 1, Op.LOAD, 0, Op.LOAD, 1, Op.SUB, 0, Op.RET, 0);
        machine.start(0, 2, 3);
        CHECK.due("call of an unsealed one", machine.run(9), DeoptMachine.MISSING);
        CHECK.frameDue("MISSING", machine, 0, 0, 4, 2, 2, 3, 0, 0, 4, 5);
        CHECK.due("state", machine.status(0), DeoptMachine.ACTIVE);
        CHECK.due("effects before it stay", machine.output(0), 1);
        int[] before = Readings.of(machine);
        CHECK.due("again", machine.run(9), DeoptMachine.MISSING);
        CHECK.unchanged("MISSING again", machine, before);
        machine.seal(1);
        CHECK.due("sealed now", machine.run(1), DeoptMachine.FINISHED);
        CHECK.due("result", machine.status(1), -1);
        CHECK.due("PRINT was not done twice", machine.status(3), 1);
    }

    private static void depth() {
        DeoptMachine machine = new DeoptMachine(2, 16, 2, 1);
        Programs.define(machine, 0, Op.LOAD, 0, Op.PUSH, 1, Op.ADD, 0, Op.CALL1, 0, Op.RET, 0);
        machine.start(0, 5, 0);
        CHECK.due("third frame of two", machine.run(9), DeoptMachine.DEPTH);
        CHECK.due("frames", machine.status(2), 2);
        CHECK.frameDue("waiting", machine, 0, 0, 4, 0, 5);
        CHECK.frameDue("top", machine, 1, 0, 3, 1, 6, 0, 0, 0, 7);
        int[] before = Readings.of(machine);
        CHECK.due("again", machine.run(9), DeoptMachine.DEPTH);
        CHECK.unchanged("DEPTH again", machine, before);
    }

    private static void missingComesBeforeDepth() {
        DeoptMachine machine = new DeoptMachine(3, 16, 2, 1);
        Programs.define(machine, 0, Op.CALL0, 1, Op.RET, 0);
        Programs.define(machine, 1, Op.CALL0, 2, Op.RET, 0);
        machine.start(0, 0, 0);
        CHECK.due("unsealed and too deep", machine.run(9), DeoptMachine.MISSING);
        Programs.define(machine, 2, Op.PUSH, 1, Op.RET, 0);
        CHECK.due("too deep", machine.run(9), DeoptMachine.DEPTH);
    }

    private static void divide() {
        DeoptMachine machine = new DeoptMachine(2, 16, 2, 1);
        Programs.define(machine, 0, Op.PUSH, 3, Op.LOAD, 0, Op.GET, 5, Op.DIV, 0, Op.ADD, 0, Op.RET, 0);
        machine.start(0, 20, 0);
        CHECK.due("by 0", machine.run(1), DeoptMachine.DIVIDE);
        CHECK.frameDue("by 0", machine, 0, 0, 3, 3, 20, 0, 0, 0, 3, 20, 0);
        CHECK.due("pending count", machine.frame(0, 2), 3);
        machine.setGlobal(5, 4);
        int[] before = Readings.of(machine);
        CHECK.due("by 0 again, for the pending value stays", machine.run(1), DeoptMachine.DIVIDE);
        CHECK.unchanged("by 0 again", machine, before);
        machine.abandon();
        machine.start(0, 20, 0);
        CHECK.due("by 4", machine.run(1), DeoptMachine.FINISHED);
        CHECK.due("result", machine.status(1), 8);
        machine.start(0, 0, 0);
        CHECK.due("0 by 4", machine.run(1), DeoptMachine.FINISHED);
        CHECK.due("result", machine.status(1), 3);
    }

    private static void outputFull() {
        DeoptMachine machine = new DeoptMachine(2, 16, 2, 1);
        Programs.define(machine, 0, Op.LOAD, 0, Op.PRINT, 0, Op.LOAD, 0, Op.PUSH, 1, Op.ADD, 0, Op.STORE, 0, Op.JUMP, 0);
        machine.start(0, 100, 0);
        CHECK.due("15 jumps", machine.run(15), DeoptMachine.PAUSED);
        CHECK.due("cells", machine.status(3), 16);
        CHECK.due("17th PRINT", machine.run(64), DeoptMachine.OUTPUT_FULL);
        CHECK.frameDue("17th PRINT", machine, 0, 0, 1, 1, 116, 0, 0, 0, 116);
        int[] before = Readings.of(machine);
        CHECK.due("again", machine.run(64), DeoptMachine.OUTPUT_FULL);
        CHECK.unchanged("OUTPUT_FULL again", machine, before);
        for (int i = 0; i < 16; i++) {
            CHECK.due("cell " + i, machine.output(i), 100 + i);
        }
    }

    private static void pausedComesBeforeOtherStops() {
        DeoptMachine machine = new DeoptMachine(3, 16, 2, 1);
        Programs.define(machine, 1, Op.PUSH, 1, Op.RET, 0);
        Programs.define(machine, 0, Op.CALL0, 1, Op.CALL1, 2, Op.RET, 0);
        machine.start(0, 0, 0);
        CHECK.due("unsealed at credit 0", machine.run(1), DeoptMachine.PAUSED);
        CHECK.due("unsealed at credit 1", machine.run(1), DeoptMachine.MISSING);
        machine = new DeoptMachine(3, 16, 2, 1);
        Programs.define(machine, 0, Op.CALL0, 0, Op.RET, 0);
        machine.start(0, 0, 0);
        CHECK.due("too deep at credit 0", machine.run(1), DeoptMachine.PAUSED);
        CHECK.due("too deep at credit 1", machine.run(1), DeoptMachine.DEPTH);
        machine = new DeoptMachine(2, 16, 2, 1);
        Programs.define(machine, 1, Op.PUSH, 0, Op.RET, 0);
        Programs.define(machine, 0, Op.PUSH, 7, Op.CALL0, 1, Op.DIV, 0, Op.RET, 0);
        machine.start(0, 0, 0);
        CHECK.due("DIV at credit 0", machine.run(1), DeoptMachine.DIVIDE);
    }

    private static void creditIsSpentOnAStoppedCall() {
        DeoptMachine machine = new DeoptMachine(2, 16, 2, 1);
        Programs.define(machine, 0, Op.CALL0, 1, Op.CALL1, 1, Op.RET, 0);
        machine.start(0, 0, 0);
        CHECK.due("stopped call", machine.run(2), DeoptMachine.MISSING);
        Programs.define(machine, 1, Op.PUSH, 4, Op.RET, 0);
        CHECK.due("new credit alone counts", machine.run(1), DeoptMachine.PAUSED);
        CHECK.due("the second call", machine.run(1), DeoptMachine.FINISHED);
    }

    private static void argumentsOfCalls() {
        DeoptMachine none = calling(Op.CALL0, Op.ADD, 0, Op.ADD, 0, Op.RET, 0);
        CHECK.frameDue("CALL0 caller", none, 0, 0, 5, 2, 0, 0, 0, 9, 30, 40);
        CHECK.frameDue("CALL0 callee", none, 1, 1);
        DeoptMachine one = calling(Op.CALL1, Op.ADD, 0, Op.RET, 0);
        CHECK.frameDue("CALL1 caller", one, 0, 0, 5, 1, 0, 0, 0, 9, 30);
        CHECK.frameDue("CALL1 callee", one, 1, 1, 0, 0, 40);
        DeoptMachine two = calling(Op.CALL2, Op.RET, 0);
        CHECK.frameDue("CALL2 caller", two, 0, 0, 5, 0, 0, 0, 0, 9);
        CHECK.frameDue("CALL2 callee", two, 1, 1, 0, 0, 30, 40);
    }

    /** Paused at the entry of a call with 30 and 40 pending; an earlier callee has used all its locals. */
    private static DeoptMachine calling(int op, int... rest) {
        DeoptMachine machine = new DeoptMachine(3, 16, 3, 1);
        Programs.define(machine, 1, Op.JUMP, 0);
        Programs.define(machine, 2, Op.PUSH, 9, Op.STORE, 0, Op.PUSH, 9, Op.STORE, 1, Op.PUSH, 9, Op.STORE, 2, Op.PUSH, 9,
                Op.STORE, 3, Op.PUSH, 9, Op.RET, 0);
        Programs.feed(machine, 0, Op.CALL0, 2, Op.STORE, 3, Op.PUSH, 30, Op.PUSH, 40, op, 1);
        Programs.define(machine, 0, rest);
        machine.start(0, 0, 0);
        CHECK.due("two calls", machine.run(2), DeoptMachine.PAUSED);
        return machine;
    }

    private static void returnToCaller() {
        DeoptMachine machine = new DeoptMachine(3, 16, 8, 1);
        Programs.define(machine, 1, Op.LOAD, 0, Op.LOAD, 1, Op.SUB, 0, Op.STORE, 0, Op.LOAD, 0, Op.RET, 0);
        Programs.define(machine, 0, Op.PUSH, 100, Op.PUSH, 20, Op.PUSH, 3, Op.CALL2, 1, Op.SUB, 0, Op.LOAD, 0, Op.MUL, 0,
                Op.RET, 0);
        machine.start(0, 2, 0);
        CHECK.due("call in an expression", machine.run(1), DeoptMachine.FINISHED);
        CHECK.due("(100 - (20 - 3)) * 2", machine.status(1), 166);
        CHECK.due("frames", machine.status(2), 0);
        CHECK.due("state", machine.status(0), DeoptMachine.DONE);

        Programs.define(machine, 2, Op.LOAD, 0, Op.PUSH, 2, Op.LESS, 0, Op.JUMP_IF, 14, Op.LOAD, 0, Op.PUSH, 1, Op.SUB, 0,
                Op.CALL1, 2, Op.LOAD, 0, Op.PUSH, 2, Op.SUB, 0, Op.CALL1, 2, Op.ADD, 0, Op.RET, 0, Op.LOAD, 0, Op.RET, 0);
        machine.start(2, 7, 0);
        CHECK.due("Fibonacci, one credit too few", machine.run(39), DeoptMachine.PAUSED);
        machine.abandon();
        machine.start(2, 7, 0);
        CHECK.due("Fibonacci", machine.run(40), DeoptMachine.FINISHED);
        CHECK.due("Fibonacci of 7", machine.status(1), 13);
    }

    private static void resultOnlyAtTheEnd() {
        DeoptMachine machine = new DeoptMachine(2, 16, 2, 1);
        Programs.define(machine, 0, Op.LOAD, 0, Op.JUMP_IF, 4, Op.LOAD, 1, Op.RET, 0, Op.PUSH, 0, Op.STORE, 0, Op.JUMP, 0);
        machine.start(0, 0, -5);
        CHECK.due("first", machine.run(1), DeoptMachine.FINISHED);
        CHECK.due("first result", machine.status(1), -5);
        machine.start(0, 1, 6);
        CHECK.due("result while active", machine.status(1), -5);
        machine.abandon();
        CHECK.due("result after abandon", machine.status(1), -5);
        machine.start(0, 1, 6);
        CHECK.due("second", machine.run(1), DeoptMachine.FINISHED);
        CHECK.due("second result", machine.status(1), 6);
    }

    private static void putInARun() {
        DeoptMachine machine = new DeoptMachine(2, 16, 2, 1);
        Programs.define(machine, 0, Op.GET, 3, Op.LOAD, 0, Op.PUT, 3, Op.GET, 3, Op.SUB, 0, Op.RET, 0);
        machine.setGlobal(3, 50);
        machine.assume(3);
        machine.optimise(0);
        machine.start(0, 50, 0);
        machine.run(1);
        CHECK.due("equal PUT: result", machine.status(1), 0);
        CHECK.due("equal PUT: failures", machine.status(4), 0);
        CHECK.due("equal PUT: mark", machine.assumed(3), true);
        machine.start(0, 8, 0);
        machine.run(1);
        CHECK.due("other PUT: result", machine.status(1), 42);
        CHECK.due("other PUT: failures", machine.status(4), 1);
        CHECK.due("other PUT: mark", machine.assumed(3), false);
        CHECK.due("other PUT: value", machine.global(3), 8);
    }

    /** All credit spent over the longest function, and all frames returning without credit. */
    private static void longestSlice() {
        DeoptMachine machine = new DeoptMachine(2, 32, 8, 1);
        Programs.feed(machine, 0, Op.GET, 0, Op.PUSH, 1, Op.ADD, 0, Op.PUT, 0);
        for (int i = 0; i < 13; i++) {
            Programs.feed(machine, 0, Op.PUSH, i, Op.STORE, 2);
        }
        Programs.define(machine, 0, Op.JUMP, 31, Op.JUMP, 0);
        machine.start(0, 0, 0);
        CHECK.due("longest loop", machine.run(64), DeoptMachine.PAUSED);
        CHECK.due("rounds", machine.global(0), 65);

        Programs.feed(machine, 1, Op.LOAD, 0, Op.JUMP_IF, 4, Op.PUSH, 1, Op.RET, 0, Op.LOAD, 0, Op.LOAD, 0, Op.PUSH, 1,
                Op.SUB, 0, Op.CALL1, 1, Op.ADD, 0);
        for (int i = 0; i < 10; i++) {
            Programs.feed(machine, 1, Op.STORE, 3, Op.LOAD, 3);
        }
        Programs.define(machine, 1, Op.RET, 0);
        machine.abandon();
        machine.start(1, 7, 0);
        CHECK.due("deepest return", machine.run(7), DeoptMachine.FINISHED);
        CHECK.due("1 + 1 + 2 + .. + 7", machine.status(1), 29);
    }
}
