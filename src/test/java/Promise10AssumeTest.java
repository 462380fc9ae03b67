/** Promise 10: assume and assumed. */
public final class Promise10AssumeTest {
    private static final Check CHECK = new Check();

    public static void main(String[] args) {
        wrongGlobals();
        everyGlobal();
        inEveryState();
        againAfterItBroke();
        meaningStays();
        CHECK.end();
    }

    private static void wrongGlobals() {
        DeoptMachine machine = Programs.busy();
        int[] before = Readings.of(machine);
        for (int g : new int[] {Integer.MIN_VALUE, -1, 8, 9, Integer.MAX_VALUE}) {
            CHECK.due("assume(" + g + ")", machine.assume(g), DeoptMachine.REFUSED);
            CHECK.due("assumed(" + g + ")", machine.assumed(g), false);
        }
        CHECK.unchanged("assume of no global", machine, before);
    }

    private static void everyGlobal() {
        for (int g = 0; g < 8; g++) {
            DeoptMachine machine = new DeoptMachine(2, 8, 2, 1);
            CHECK.due("assumed(" + g + ") at first", machine.assumed(g), false);
            int[] before = Readings.of(machine);
            CHECK.due("assume(" + g + ")", machine.assume(g), DeoptMachine.OK);
            CHECK.due("assumed(" + g + ")", machine.assumed(g), true);
            CHECK.changedOnly("assume(" + g + ")", machine, before, "assumed(" + g + ")");
            CHECK.due("assume(" + g + ") again", machine.assume(g), DeoptMachine.OK);
            CHECK.changedOnly("assume(" + g + ") again", machine, before, "assumed(" + g + ")");
        }
    }

    private static void inEveryState() {
        DeoptMachine machine = Programs.busy();
        int[] before = Readings.of(machine);
        CHECK.due("assume in ACTIVE", machine.assume(7), DeoptMachine.OK);
        CHECK.changedOnly("assume in ACTIVE", machine, before, "assumed(7)");
        machine.abandon();
        machine.start(3, 0, 0);
        machine.run(1);
        before = Readings.of(machine);
        CHECK.due("assume in DONE", machine.assume(5), DeoptMachine.OK);
        CHECK.changedOnly("assume in DONE", machine, before, "assumed(5)");
    }

    private static void againAfterItBroke() {
        DeoptMachine machine = new DeoptMachine(2, 8, 2, 1);
        for (int round = 1; round <= 5; round++) {
            machine.assume(3);
            CHECK.due("mark in round " + round, machine.assumed(3), true);
            machine.setGlobal(3, round);
            CHECK.due("broken mark in round " + round, machine.assumed(3), false);
            CHECK.due("failures in round " + round, machine.status(4), round);
        }
    }

    private static void meaningStays() {
        DeoptMachine machine = new DeoptMachine(2, 16, 2, 1);
        Programs.define(machine, 0, Op.GET, 1, Op.PRINT, 0, Op.GET, 1, Op.PUSH, 1, Op.ADD, 0, Op.PUT, 1, Op.JUMP, 0);
        machine.optimise(0);
        machine.start(0, 0, 0);
        for (int slice = 0; slice < 4; slice++) {
            machine.assume(1);
            CHECK.due("slice " + slice, machine.run(1), DeoptMachine.PAUSED);
            CHECK.due("failures in slice " + slice, machine.status(4), slice + 1);
        }
        for (int i = 0; i < 5; i++) {
            CHECK.due("output(" + i + ")", machine.output(i), i);
        }
    }
}
