import java.io.IOException;

/** The edges of Promise 8: setGlobal and global. */
public final class Edge08GlobalsTest {
    private static final int[] VALUES = {Integer.MIN_VALUE, Integer.MIN_VALUE + 1, -1, 0, 1, Integer.MAX_VALUE};
    private static final String RULE = "Writing a global, by PUT or by `setGlobal`: if the global is assumed and the new value "
            + "differs from its present one, the mark becomes false and failures grows by 1.";
    private static final String LATER = "It works in every state; in an `ACTIVE` run, every later GET pushes the value the "
            + "global then has, while values already pending or in locals stay.";

    public static void main(String[] args) throws IOException {
        Edges edges = new Edges(8);
        edges.holds(RULE, Edge08GlobalsTest::brokenBySetGlobal);
        edges.holds(RULE, Edge08GlobalsTest::brokenByPut);
        edges.holds(RULE, Edge08GlobalsTest::brokenByTheNearestValue);
        edges.holds("Then, in all cases, the global gets the new value.", Edge08GlobalsTest::theNewValueInAllCases);
        edges.holds("So writing an equal value to an assumed global leaves the mark and failures as they are, and writing a "
                + "global that is not assumed never changes failures.", Edge08GlobalsTest::equalValue);
        edges.holds("So writing an equal value to an assumed global leaves the mark and failures as they are, and writing a "
                + "global that is not assumed never changes failures.", Edge08GlobalsTest::notAssumed);
        edges.holds("`setGlobal(g, v)` answers `REFUSED` if g is not in 0..7.", Edge08GlobalsTest::noSuchGlobal);
        edges.holds("Else it writes v to global g by this rule and answers `OK`.", Edge08GlobalsTest::writesEveryGlobal);
        edges.holds("Nothing else changes.", Edge08GlobalsTest::nothingElseChanges);
        edges.holds(LATER, Edge08GlobalsTest::everyState);
        edges.holds(LATER, Edge08GlobalsTest::laterGets);
        edges.holds(LATER, Edge08GlobalsTest::pendingAndLocalsStay);
        edges.holds("`global(g)` answers the value of global g; 0 if g is not in 0..7.", Edge08GlobalsTest::readNoSuchGlobal);
        edges.holds("Nothing changes.", Edge08GlobalsTest::readingChangesNothing);
        edges.end();
    }

    private static void brokenBySetGlobal(Check check) {
        DeoptMachine machine = new DeoptMachine(2, 8, 2, 1);
        for (int g = 0; g < 8; g++) {
            machine.assume(g);
        }
        for (int g = 0; g < 8; g++) {
            machine.setGlobal(g, 1);
            check.due("failures after " + g, machine.status(4), g + 1);
            for (int other = 0; other < 8; other++) {
                check.due("assumed(" + other + ") after " + g, machine.assumed(other), other > g);
            }
        }
        machine.setGlobal(7, 2);
        check.due("failures after a second writing", machine.status(4), 8);
    }

    private static void brokenByPut(Check check) {
        for (int g = 0; g < 8; g++) {
            DeoptMachine machine = new DeoptMachine(2, 16, 2, 1);
            for (int other = 0; other < 8; other++) {
                machine.assume(other);
            }
            Programs.define(machine, 0, Op.LOAD, 0, Op.PUT, g, Op.LOAD, 0, Op.PUT, g, Op.LOAD, 1, Op.PUT, g, Op.LOAD, 0,
                    Op.RET, 0);
            machine.start(0, 0, 1);
            check.due("run", machine.run(1), DeoptMachine.FINISHED);
            check.due("failures by PUT " + g, machine.status(4), 1);
            for (int other = 0; other < 8; other++) {
                check.due("assumed(" + other + ") after PUT " + g, machine.assumed(other), other != g);
            }
        }
    }

    /** Each differs from the present value in one bit, or in its sign alone. */
    private static void brokenByTheNearestValue(Check check) {
        for (int bit = 0; bit < 32; bit++) {
            DeoptMachine machine = new DeoptMachine(2, 8, 2, 1);
            machine.setGlobal(2, 5);
            machine.assume(2);
            machine.setGlobal(2, 5 ^ 1 << bit);
            check.due("failures with bit " + bit, machine.status(4), 1);
        }
        DeoptMachine machine = new DeoptMachine(2, 8, 2, 1);
        machine.setGlobal(2, 5);
        machine.assume(2);
        machine.setGlobal(2, -5);
        check.due("failures with another sign", machine.status(4), 1);
    }

    private static void theNewValueInAllCases(Check check) {
        for (int value : VALUES) {
            DeoptMachine machine = new DeoptMachine(2, 8, 2, 1);
            machine.setGlobal(3, value);
            check.due("not assumed", machine.global(3), value);
            machine.assume(3);
            machine.setGlobal(3, value);
            check.due("assumed and equal", machine.global(3), value);
            machine.setGlobal(3, value + 1);
            check.due("assumed and other", machine.global(3), value + 1);
            machine.setGlobal(3, value);
            check.due("no longer assumed", machine.global(3), value);
        }
    }

    private static void equalValue(Check check) {
        for (int value : VALUES) {
            DeoptMachine machine = new DeoptMachine(2, 8, 2, 1);
            Programs.define(machine, 0, Op.LOAD, 0, Op.PUT, 6, Op.LOAD, 0, Op.RET, 0);
            machine.setGlobal(6, value);
            machine.assume(6);
            int[] before = Readings.of(machine);
            check.due("setGlobal", machine.setGlobal(6, value), DeoptMachine.OK);
            check.unchanged("an equal value " + value, machine, before);
            machine.start(0, value, 0);
            machine.run(1);
            check.due("failures after PUT", machine.status(4), 0);
            check.due("mark after PUT", machine.assumed(6), true);
        }
    }

    private static void notAssumed(Check check) {
        DeoptMachine machine = new DeoptMachine(2, 16, 2, 1);
        machine.assume(1);
        for (int value : VALUES) {
            machine.setGlobal(0, value);
            check.due("failures after setGlobal(0, " + value + ")", machine.status(4), 0);
        }
        Programs.define(machine, 0, Op.LOAD, 0, Op.PUT, 0, Op.LOAD, 1, Op.PUT, 0, Op.LOAD, 0, Op.RET, 0);
        machine.start(0, 3, 4);
        machine.run(1);
        check.due("failures after PUT", machine.status(4), 0);
        check.due("mark of the other", machine.assumed(1), true);
    }

    private static void noSuchGlobal(Check check) {
        for (int state = DeoptMachine.IDLE; state <= DeoptMachine.DONE; state++) {
            DeoptMachine machine = Programs.inState(state);
            for (int g = 0; g < 8; g++) {
                machine.assume(g);
            }
            int[] before = Readings.of(machine);
            for (int g : Edges.outside(0, 7)) {
                check.due("setGlobal(" + g + ", 5)", machine.setGlobal(g, 5), DeoptMachine.REFUSED);
            }
            check.unchanged("setGlobal of no global", machine, before);
        }
    }

    private static void writesEveryGlobal(Check check) {
        DeoptMachine machine = new DeoptMachine(2, 8, 2, 1);
        for (int g = 0; g < 8; g++) {
            for (int value : VALUES) {
                check.due("setGlobal(" + g + ", " + value + ")", machine.setGlobal(g, value), DeoptMachine.OK);
                check.due("global(" + g + ")", machine.global(g), value);
            }
            machine.setGlobal(g, 100 + g);
        }
        for (int g = 0; g < 8; g++) {
            check.due("global(" + g + ") at the end", machine.global(g), 100 + g);
        }
    }

    private static void nothingElseChanges(Check check) {
        for (int state = DeoptMachine.IDLE; state <= DeoptMachine.DONE; state++) {
            DeoptMachine machine = Programs.inState(state);
            int[] before = Readings.of(machine);
            machine.setGlobal(7, 55);
            check.changedOnly("not assumed, in state " + state, machine, before, "global(7)");
            before = Readings.of(machine);
            machine.setGlobal(1, 55);
            check.changedOnly("assumed, in state " + state, machine, before, "global(1)", "assumed(1)", "status(4)");
        }
    }

    private static void everyState(Check check) {
        for (int state = DeoptMachine.IDLE; state <= DeoptMachine.DONE; state++) {
            DeoptMachine machine = Programs.inState(state);
            check.due("setGlobal in state " + state, machine.setGlobal(0, 5), DeoptMachine.OK);
            check.due("global in state " + state, machine.global(0), 5);
        }
    }

    /** Stopped before a call of an empty function, with global 0, then 5 and assumed, in local 0 and pending. */
    private static DeoptMachine halfway(Check check) {
        DeoptMachine machine = new DeoptMachine(2, 16, 2, 1);
        Programs.define(machine, 0, Op.GET, 0, Op.STORE, 0, Op.GET, 0, Op.CALL0, 1, Op.PRINT, 0, Op.GET, 0, Op.PRINT, 0,
                Op.PRINT, 0, Op.LOAD, 0, Op.PRINT, 0, Op.JUMP, 10);
        machine.setGlobal(0, 5);
        machine.assume(0);
        machine.optimise(0);
        machine.start(0, 0, 0);
        check.due("to the call", machine.run(1), DeoptMachine.MISSING);
        return machine;
    }

    private static void laterGets(Check check) {
        DeoptMachine machine = halfway(check);
        machine.setGlobal(0, 6);
        Programs.define(machine, 1, Op.GET, 0, Op.RET, 0);
        check.due("the rest", machine.run(1), DeoptMachine.PAUSED);
        check.due("GET in the called function", machine.output(0), 6);
        check.due("GET in the same frame", machine.output(1), 6);
    }

    private static void pendingAndLocalsStay(Check check) {
        DeoptMachine machine = halfway(check);
        machine.setGlobal(0, 6);
        check.frameDue("after setGlobal", machine, 0, 0, 3, 1, 5, 0, 0, 0, 5);
        Programs.define(machine, 1, Op.GET, 0, Op.RET, 0);
        machine.run(1);
        check.due("what was pending", machine.output(2), 5);
        check.due("what was in the local", machine.output(3), 5);
    }

    private static void readNoSuchGlobal(Check check) {
        DeoptMachine machine = new DeoptMachine(2, 8, 2, 1);
        for (int g = 0; g < 8; g++) {
            machine.setGlobal(g, -1 - g);
        }
        for (int g : Edges.outside(0, 7)) {
            check.due("global(" + g + ")", machine.global(g), 0);
        }
        for (int g = 0; g < 8; g++) {
            check.due("global(" + g + ")", machine.global(g), -1 - g);
        }
    }

    private static void readingChangesNothing(Check check) {
        for (int state = DeoptMachine.IDLE; state <= DeoptMachine.DONE; state++) {
            DeoptMachine machine = Programs.inState(state);
            int[] before = Readings.of(machine);
            for (int g = -2; g <= 9; g++) {
                machine.global(g);
            }
            check.unchanged("global in state " + state, machine, before);
        }
    }
}
