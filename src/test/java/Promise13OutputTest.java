/** Promise 13: output and clearOutput. */
public final class Promise13OutputTest {
    private static final Check CHECK = new Check();

    public static void main(String[] args) {
        emptyOutput();
        cells();
        clearedCellsAreNotSeen();
        clearInEveryState();
        printAfterClear();
        CHECK.end();
    }

    private static void emptyOutput() {
        DeoptMachine machine = new DeoptMachine(2, 16, 2, 1);
        int[] before = Readings.of(machine);
        CHECK.due("clearOutput of an empty one", machine.clearOutput(), 0);
        CHECK.unchanged("clearOutput of an empty one", machine, before);
        CHECK.due("output(0)", machine.output(0), 0);
    }

    private static void cells() {
        for (int count = 1; count <= 16; count++) {
            DeoptMachine machine = printed(count);
            for (int i : new int[] {Integer.MIN_VALUE, -1, 0, 1, count - 1, count, 15, 16, 17, Integer.MAX_VALUE}) {
                CHECK.due("output(" + i + ") of " + count, machine.output(i), i >= 0 && i < count ? -1000 + i : 0);
            }
            CHECK.due("status(3)", machine.status(3), count);
            CHECK.due("clearOutput", machine.clearOutput(), count);
            CHECK.due("status(3)", machine.status(3), 0);
            CHECK.due("clearOutput again", machine.clearOutput(), 0);
        }
    }

    private static void clearedCellsAreNotSeen() {
        DeoptMachine machine = printed(16);
        machine.clearOutput();
        for (int i = 0; i < 16; i++) {
            CHECK.due("output(" + i + ")", machine.output(i), 0);
        }
        machine.run(2);
        CHECK.due("new output(0)", machine.output(0), -984);
        CHECK.due("new output(1)", machine.output(1), 0);
    }

    private static void clearInEveryState() {
        DeoptMachine machine = Programs.busy();
        int[] before = Readings.of(machine);
        CHECK.due("clearOutput in ACTIVE", machine.clearOutput(), 2);
        CHECK.changedOnly("clearOutput in ACTIVE", machine, before, "status(3)", "output(0)", "output(1)");
        machine.run(3);
        machine.abandon();
        before = Readings.of(machine);
        CHECK.due("clearOutput in IDLE", machine.clearOutput(), 3);
        CHECK.changedOnly("clearOutput in IDLE", machine, before, "status(3)", "output(0)", "output(1)", "output(2)");
    }

    private static void printAfterClear() {
        DeoptMachine machine = printed(16);
        CHECK.due("17th PRINT", machine.run(1), DeoptMachine.OUTPUT_FULL);
        CHECK.due("clearOutput", machine.clearOutput(), 16);
        CHECK.due("PRINT after clearOutput", machine.run(1), DeoptMachine.PAUSED);
        CHECK.due("the value that waited", machine.output(0), -984);
    }

    /** A machine in an endless run that has printed so many values from -1000 on. */
    private static DeoptMachine printed(int count) {
        DeoptMachine machine = new DeoptMachine(2, 16, 2, 1);
        Programs.define(machine, 0, Op.PUSH, 0, Op.JUMP_IF, 0, Op.LOAD, 0, Op.PRINT, 0, Op.LOAD, 0, Op.PUSH, 1, Op.ADD, 0,
                Op.STORE, 0, Op.JUMP, 0);
        machine.start(0, -1000, 0);
        for (int i = 0; i < count; i++) {
            // A round costs two credits: the first jump is not taken, but it is backward.
            machine.run(2);
        }
        return machine;
    }
}
