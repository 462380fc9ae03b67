/** Promise 6: start and abandon. */
public final class Promise06StartTest {
    private static final Check CHECK = new Check();

    public static void main(String[] args) {
        wrongFunctions();
        activeIsRefused();
        unsealedIsMissing();
        startMakesOneFrame();
        startFromDone();
        startClearsOldLocals();
        abandonDropsTheRun();
        abandonWithoutRun();
        CHECK.end();
    }

    private static void wrongFunctions() {
        DeoptMachine machine = idle();
        int[] before = Readings.of(machine);
        for (int f : new int[] {Integer.MIN_VALUE, -1, 3, 8, Integer.MAX_VALUE}) {
            CHECK.due("start(" + f + ")", machine.start(f, 1, 2), DeoptMachine.REFUSED);
        }
        CHECK.unchanged("start of no function", machine, before);
    }

    private static void activeIsRefused() {
        DeoptMachine machine = Programs.busy();
        int[] before = Readings.of(machine);
        CHECK.due("start while active", machine.start(3, 1, 2), DeoptMachine.REFUSED);
        CHECK.due("start of an unsealed one while active", machine.start(2, 1, 2), DeoptMachine.REFUSED);
        CHECK.unchanged("start while active", machine, before);
    }

    private static void unsealedIsMissing() {
        DeoptMachine machine = idle();
        Programs.feed(machine, 1, Op.PUSH, 1, Op.RET, 0);
        int[] before = Readings.of(machine);
        CHECK.due("start of an unsealed one", machine.start(1, 1, 2), DeoptMachine.MISSING);
        CHECK.due("start of an empty one", machine.start(2, 1, 2), DeoptMachine.MISSING);
        CHECK.unchanged("start of an unsealed one", machine, before);
    }

    private static void startMakesOneFrame() {
        DeoptMachine machine = new DeoptMachine(3, 16, 3, 1);
        Programs.define(machine, 2, Op.PUSH, 1, Op.PRINT, 0, Op.PUSH, 1, Op.RET, 0);
        int[] before = Readings.of(machine);
        CHECK.due("start", machine.start(2, -4, 6), DeoptMachine.OK);
        CHECK.frameDue("start", machine, 0, 2, 0, 0, -4, 6);
        CHECK.changedOnly("start", machine, before, "status(0)", "status(2)", "frame(0, 0)", "frame(0, 3)", "frame(0, 4)");
        CHECK.due("state", machine.status(0), DeoptMachine.ACTIVE);
        CHECK.due("frames", machine.status(2), 1);
    }

    private static void startFromDone() {
        DeoptMachine machine = idle();
        machine.setGlobal(4, 9);
        machine.assume(4);
        machine.assume(5);
        machine.setGlobal(5, 1);
        machine.start(0, 3, 0);
        CHECK.due("run", machine.run(1), DeoptMachine.FINISHED);
        int[] before = Readings.of(machine);
        CHECK.due("start from DONE", machine.start(0, 3, 8), DeoptMachine.OK);
        CHECK.changedOnly("start from DONE", machine, before, "status(0)", "status(2)", "frame(0, 3)", "frame(0, 4)");
        CHECK.due("result", machine.status(1), 3);
        CHECK.due("output", machine.output(0), 3);
    }

    private static void startClearsOldLocals() {
        DeoptMachine machine = new DeoptMachine(2, 16, 2, 1);
        Programs.define(machine, 0, Op.PUSH, 5, Op.STORE, 2, Op.PUSH, 6, Op.STORE, 3, Op.PUSH, 7, Op.CALL0, 1, Op.ADD, 0,
                Op.RET, 0);
        machine.start(0, 1, 2);
        CHECK.due("run", machine.run(1), DeoptMachine.MISSING);
        CHECK.frameDue("before the call", machine, 0, 0, 5, 1, 1, 2, 5, 6, 7);
        machine.abandon();
        machine.start(0, 3, 4);
        CHECK.frameDue("started anew", machine, 0, 0, 0, 0, 3, 4);
    }

    private static void abandonDropsTheRun() {
        DeoptMachine machine = Programs.busy();
        int[] before = Readings.of(machine);
        CHECK.due("abandon", machine.abandon(), DeoptMachine.OK);
        int[] now = Readings.of(machine);
        for (int i = 0; i < now.length; i++) {
            String name = Readings.nameOf(i);
            boolean dropped = name.startsWith("frame(") || name.equals("status(0)") || name.equals("status(2)");
            CHECK.due("abandon: " + name, now[i], dropped ? 0 : before[i]);
        }
        CHECK.due("run after abandon", machine.run(1), DeoptMachine.REFUSED);
        CHECK.due("start after abandon", machine.start(0, 1, 1), DeoptMachine.OK);
    }

    private static void abandonWithoutRun() {
        DeoptMachine machine = idle();
        int[] before = Readings.of(machine);
        CHECK.due("abandon from IDLE", machine.abandon(), DeoptMachine.REFUSED);
        CHECK.unchanged("abandon from IDLE", machine, before);
        machine.start(0, 3, 0);
        machine.run(1);
        before = Readings.of(machine);
        CHECK.due("abandon from DONE", machine.abandon(), DeoptMachine.REFUSED);
        CHECK.unchanged("abandon from DONE", machine, before);
    }

    private static DeoptMachine idle() {
        DeoptMachine machine = new DeoptMachine(3, 16, 3, 1);
        Programs.define(machine, 0, Op.LOAD, 0, Op.PRINT, 0, Op.LOAD, 0, Op.RET, 0);
        return machine;
    }
}
