/** Promise 4: erase. */
public final class Promise04EraseTest {
    private static final Check CHECK = new Check();

    public static void main(String[] args) {
        wrongFunctions();
        emptyFunction();
        unsealedFunction();
        sealedFunction();
        functionsWithFrames();
        afterTheRun();
        replacedWhileItsCallerRuns();
        CHECK.end();
    }

    private static void wrongFunctions() {
        DeoptMachine machine = Programs.busy();
        int[] before = Readings.of(machine);
        for (int f : new int[] {Integer.MIN_VALUE, -1, 4, 8, Integer.MAX_VALUE}) {
            CHECK.due("erase(" + f + ")", machine.erase(f), DeoptMachine.REFUSED);
        }
        CHECK.unchanged("erase of no function", machine, before);
    }

    private static void emptyFunction() {
        DeoptMachine machine = new DeoptMachine(2, 8, 2, 1);
        int[] before = Readings.of(machine);
        CHECK.due("erase of an empty one", machine.erase(1), DeoptMachine.OK);
        CHECK.unchanged("erase of an empty one", machine, before);
    }

    private static void unsealedFunction() {
        DeoptMachine machine = Programs.busy();
        int[] before = Readings.of(machine);
        CHECK.due("erase of an unsealed one", machine.erase(2), DeoptMachine.OK);
        CHECK.changedOnly("erase of an unsealed one", machine, before, "code(2, 0, 0)", "code(2, 1, 0)", "code(2, 0, 1)",
                "code(2, 1, 1)", "code(2, 2)");
    }

    private static void sealedFunction() {
        DeoptMachine machine = Programs.busy();
        int[] before = Readings.of(machine);
        CHECK.due("erase of a sealed one", machine.erase(3), DeoptMachine.OK);
        CHECK.changedOnly("erase of a sealed one", machine, before, "code(3, 0, 0)", "code(3, 1, 0)", "code(3, 0, 1)",
                "code(3, 1, 1)", "code(3, 2)", "code(3, 3)");
        CHECK.due("emit after erase", machine.emit(3, Op.PUSH, 6), DeoptMachine.OK);
        CHECK.due("op after erase", machine.code(3, 1, 0), 6);
        CHECK.due("second op after erase", machine.code(3, 0, 1), -1);
    }

    private static void functionsWithFrames() {
        DeoptMachine machine = Programs.busy();
        int[] before = Readings.of(machine);
        CHECK.due("erase of a waiting one", machine.erase(0), DeoptMachine.REFUSED);
        CHECK.due("erase of the top one", machine.erase(1), DeoptMachine.REFUSED);
        CHECK.unchanged("erase of one with a frame", machine, before);
    }

    private static void afterTheRun() {
        DeoptMachine machine = Programs.busy();
        machine.abandon();
        CHECK.due("erase after abandon", machine.erase(0), DeoptMachine.OK);
        CHECK.due("erase after abandon", machine.erase(1), DeoptMachine.OK);
        machine.start(3, 0, 0);
        machine.run(1);
        CHECK.due("erase after the end", machine.erase(3), DeoptMachine.OK);
        CHECK.due("result after erase", machine.status(1), 41);
        CHECK.due("state after erase", machine.status(0), DeoptMachine.DONE);
    }

    private static void replacedWhileItsCallerRuns() {
        DeoptMachine machine = new DeoptMachine(3, 16, 3, 1);
        Programs.define(machine, 1, Op.LOAD, 0, Op.PUSH, 10, Op.MUL, 0, Op.RET, 0);
        Programs.define(machine, 0, Op.LOAD, 0, Op.CALL1, 1, Op.LOAD, 0, Op.CALL1, 1, Op.ADD, 0, Op.RET, 0);
        machine.optimise(0);
        machine.optimise(1);
        machine.start(0, 7, 0);
        CHECK.due("first call", machine.run(1), DeoptMachine.PAUSED);
        CHECK.due("erase the callee", machine.erase(1), DeoptMachine.OK);
        CHECK.due("call of the erased one", machine.run(1), DeoptMachine.MISSING);
        Programs.feed(machine, 1, Op.LOAD, 0, Op.PUSH, 1, Op.ADD, 0, Op.RET, 0);
        CHECK.due("call of the unsealed one", machine.run(1), DeoptMachine.MISSING);
        machine.seal(1);
        CHECK.due("call of the new one", machine.run(1), DeoptMachine.FINISHED);
        CHECK.due("result", machine.status(1), 78);
    }
}
