/** Promise 8: setGlobal and global. */
public final class Promise08GlobalsTest {
    private static final Check CHECK = new Check();

    public static void main(String[] args) {
        wrongGlobals();
        everyGlobal();
        assumedGlobal();
        globalThatIsNotAssumed();
        inAnActiveRun();
        CHECK.end();
    }

    private static void wrongGlobals() {
        DeoptMachine machine = Programs.busy();
        int[] before = Readings.of(machine);
        for (int g : new int[] {Integer.MIN_VALUE, -1, 8, 9, Integer.MAX_VALUE}) {
            CHECK.due("setGlobal(" + g + ", 5)", machine.setGlobal(g, 5), DeoptMachine.REFUSED);
            CHECK.due("global(" + g + ")", machine.global(g), 0);
        }
        CHECK.unchanged("setGlobal of no global", machine, before);
    }

    private static void everyGlobal() {
        for (int g = 0; g < 8; g++) {
            for (int v : new int[] {Integer.MIN_VALUE, -1, 1, Integer.MAX_VALUE}) {
                DeoptMachine machine = new DeoptMachine(2, 8, 2, 1);
                int[] before = Readings.of(machine);
                CHECK.due("setGlobal(" + g + ", " + v + ")", machine.setGlobal(g, v), DeoptMachine.OK);
                CHECK.due("global(" + g + ")", machine.global(g), v);
                CHECK.changedOnly("setGlobal(" + g + ", " + v + ")", machine, before, "global(" + g + ")");
            }
        }
    }

    private static void assumedGlobal() {
        DeoptMachine machine = new DeoptMachine(2, 8, 2, 1);
        machine.setGlobal(4, 10);
        machine.assume(4);
        machine.assume(5);
        int[] before = Readings.of(machine);
        CHECK.due("equal value", machine.setGlobal(4, 10), DeoptMachine.OK);
        CHECK.unchanged("equal value", machine, before);
        CHECK.due("other value", machine.setGlobal(4, 11), DeoptMachine.OK);
        CHECK.changedOnly("other value", machine, before, "global(4)", "assumed(4)", "status(4)");
        CHECK.due("failures", machine.status(4), 1);
        machine.setGlobal(4, 12);
        CHECK.due("failures after the mark is gone", machine.status(4), 1);
        machine.setGlobal(5, -1);
        CHECK.due("failures of another", machine.status(4), 2);
        machine.assume(4);
        machine.setGlobal(4, 10);
        CHECK.due("failures, assumed again", machine.status(4), 3);
    }

    private static void globalThatIsNotAssumed() {
        DeoptMachine machine = new DeoptMachine(2, 8, 2, 1);
        machine.assume(1);
        machine.setGlobal(0, 3);
        machine.setGlobal(0, 3);
        machine.setGlobal(0, 0);
        CHECK.due("failures", machine.status(4), 0);
        CHECK.due("mark of another", machine.assumed(1), true);
    }

    private static void inAnActiveRun() {
        DeoptMachine machine = new DeoptMachine(2, 16, 2, 1);
        Programs.define(machine, 0, Op.GET, 0, Op.STORE, 0, Op.GET, 0, Op.CALL0, 1, Op.GET, 0, Op.LOAD, 0, Op.PRINT, 0,
                Op.PRINT, 0, Op.PRINT, 0, Op.PRINT, 0, Op.JUMP, 0);
        machine.setGlobal(0, 5);
        machine.assume(0);
        machine.optimise(0);
        machine.start(0, 0, 0);
        CHECK.due("before the call", machine.run(1), DeoptMachine.MISSING);
        machine.setGlobal(0, 6);
        CHECK.due("mark", machine.assumed(0), false);
        CHECK.frameDue("pending and locals stay", machine, 0, 0, 3, 1, 5, 0, 0, 0, 5);
        Programs.define(machine, 1, Op.GET, 0, Op.RET, 0);
        CHECK.due("the rest", machine.run(1), DeoptMachine.PAUSED);
        CHECK.due("the local", machine.output(0), 5);
        CHECK.due("GET after", machine.output(1), 6);
        CHECK.due("GET in the callee", machine.output(2), 6);
        CHECK.due("pending", machine.output(3), 5);
    }
}
