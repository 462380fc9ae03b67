import java.io.IOException;

/** The edges of Promise 13: output and clearOutput. */
public final class Edge13OutputTest {
    private static final String NO_CELL = "`output(i)` answers output cell i, 0 being the oldest; 0 if there is no such cell (i "
            + "negative, or not less than the number of cells).";
    private static final String CLEARS = "`clearOutput()` empties the output and answers how many cells it had, 0 if it was "
            + "empty.";
    private static final String AFTER = "It works in every state; after it, a run that had stopped with `OUTPUT_FULL` can carry "
            + "out its PRINT.";

    public static void main(String[] args) throws IOException {
        Edges edges = new Edges(13);
        edges.holds(NO_CELL, Edge13OutputTest::oldestFirst);
        edges.holds(NO_CELL, Edge13OutputTest::negative);
        edges.holds(NO_CELL, Edge13OutputTest::notLessThanTheNumber);
        edges.holds("Nothing changes.", Edge13OutputTest::readingChangesNothing);
        edges.holds(CLEARS, Edge13OutputTest::countOfEverySize);
        edges.holds(CLEARS, Edge13OutputTest::emptyOutput);
        edges.holds(CLEARS, Edge13OutputTest::oldCellsAreGone);
        edges.holds("Nothing else changes.", Edge13OutputTest::nothingElseChanges);
        edges.holds(AFTER, Edge13OutputTest::everyState);
        edges.holds(AFTER, Edge13OutputTest::printAfterIt);
        edges.end();
    }

    /** Active, and has printed -1000, -999 and so on, so many cells. */
    private static DeoptMachine printed(int count) {
        DeoptMachine machine = new DeoptMachine(2, 16, 2, 1);
        Programs.define(machine, 0, Op.PUSH, 0, Op.JUMP_IF, 0, Op.LOAD, 0, Op.PRINT, 0, Op.LOAD, 0, Op.PUSH, 1, Op.ADD, 0,
                Op.STORE, 0, Op.JUMP, 0);
        machine.start(0, -1000, 0);
        for (int i = 0; i < count; i++) {
            // Each round meets two backward jumps.
            machine.run(2);
        }
        return machine;
    }

    private static void oldestFirst(Check check) {
        for (int count = 1; count <= 16; count++) {
            DeoptMachine machine = printed(count);
            for (int i = 0; i < count; i++) {
                check.due("output(" + i + ") of " + count, machine.output(i), -1000 + i);
            }
        }
    }

    private static void negative(Check check) {
        for (int count : new int[] {0, 1, 16}) {
            for (int i : new int[] {-1, -2, -16, Integer.MIN_VALUE + 1, Integer.MIN_VALUE}) {
                check.due("output(" + i + ") of " + count, printed(count).output(i), 0);
            }
        }
    }

    private static void notLessThanTheNumber(Check check) {
        for (int count = 0; count <= 16; count++) {
            for (int i : new int[] {count, count + 1, 16, 17, 32, 1 << 16, Integer.MAX_VALUE}) {
                check.due("output(" + i + ") of " + count, printed(count).output(i), 0);
            }
        }
    }

    private static void readingChangesNothing(Check check) {
        for (int state = DeoptMachine.IDLE; state <= DeoptMachine.DONE; state++) {
            DeoptMachine machine = Programs.inState(state);
            int[] before = Readings.of(machine);
            for (int i = -2; i <= 18; i++) {
                machine.output(i);
            }
            check.unchanged("output in state " + state, machine, before);
        }
    }

    private static void countOfEverySize(Check check) {
        for (int count = 0; count <= 16; count++) {
            DeoptMachine machine = printed(count);
            check.due("clearOutput of " + count, machine.clearOutput(), count);
            check.due("cells after it", machine.status(3), 0);
        }
    }

    private static void emptyOutput(Check check) {
        DeoptMachine machine = new DeoptMachine(2, 8, 2, 1);
        int[] before = Readings.of(machine);
        check.due("clearOutput at first", machine.clearOutput(), 0);
        check.unchanged("clearOutput at first", machine, before);
        machine = printed(16);
        machine.clearOutput();
        check.due("clearOutput again", machine.clearOutput(), 0);
    }

    private static void oldCellsAreGone(Check check) {
        DeoptMachine machine = printed(16);
        machine.clearOutput();
        for (int i = 0; i < 16; i++) {
            check.due("output(" + i + ")", machine.output(i), 0);
        }
        machine.run(2);
        check.due("the new cell", machine.output(0), -984);
        check.due("past the new cell", machine.output(1), 0);
        check.due("cells", machine.status(3), 1);
    }

    private static void nothingElseChanges(Check check) {
        for (int state = DeoptMachine.IDLE; state <= DeoptMachine.DONE; state++) {
            DeoptMachine machine = Programs.inState(state);
            int[] before = Readings.of(machine);
            machine.clearOutput();
            check.changedOnly("clearOutput in state " + state, machine, before, "status(3)", "output(0)", "output(1)");
        }
    }

    private static void everyState(Check check) {
        for (int state = DeoptMachine.IDLE; state <= DeoptMachine.DONE; state++) {
            DeoptMachine machine = Programs.inState(state);
            check.due("clearOutput in state " + state, machine.clearOutput(), 2);
            check.due("cells after it", machine.status(3), 0);
            check.due("state after it", machine.status(0), state);
        }
    }

    private static void printAfterIt(Check check) {
        DeoptMachine machine = printed(16);
        check.due("a 17th PRINT", machine.run(1), DeoptMachine.OUTPUT_FULL);
        check.due("clearOutput", machine.clearOutput(), 16);
        check.due("the PRINT after it", machine.run(1), DeoptMachine.PAUSED);
        check.due("its value", machine.output(0), -984);
        check.due("cells", machine.status(3), 1);
    }
}
