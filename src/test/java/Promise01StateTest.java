/** Promise 1: constructor, state and general rules. */
public final class Promise01StateTest {
    private static final Check CHECK = new Check();

    public static void main(String[] args) {
        constantsAreAsWritten();
        freshMachineIsEmpty();
        functionsAreClamped();
        codeLengthIsClamped();
        depthIsClamped();
        heatDecidesNothing();
        objectsAreApart();
        gettersChangeNothing();
        CHECK.end();
    }

    private static void constantsAreAsWritten() {
        int[] answers = {DeoptMachine.REFUSED, DeoptMachine.OK, DeoptMachine.FULL, DeoptMachine.HEIGHT,
            DeoptMachine.INVALID, DeoptMachine.MISSING, DeoptMachine.PAUSED, DeoptMachine.OUTPUT_FULL,
            DeoptMachine.DIVIDE, DeoptMachine.DEPTH, DeoptMachine.FINISHED};
        for (int i = 0; i < answers.length; i++) {
            CHECK.due("constant", answers[i], i);
        }
        CHECK.due("IDLE", DeoptMachine.IDLE, 0);
        CHECK.due("ACTIVE", DeoptMachine.ACTIVE, 1);
        CHECK.due("DONE", DeoptMachine.DONE, 2);
    }

    private static void freshMachineIsEmpty() {
        DeoptMachine machine = new DeoptMachine(8, 32, 8, 1);
        int[] all = Readings.of(machine);
        for (int i = 0; i < all.length; i++) {
            String name = Readings.nameOf(i);
            boolean cell = name.startsWith("code") && (name.contains(", 0, ") || name.contains(", 1, "));
            CHECK.due("fresh " + name, all[i], cell ? -1 : 0);
        }
    }

    private static void functionsAreClamped() {
        int[][] givenAndDue = {{Integer.MIN_VALUE, 2}, {-1, 2}, {0, 2}, {1, 2}, {2, 2}, {3, 3}, {7, 7}, {8, 8},
            {9, 8}, {Integer.MAX_VALUE, 8}};
        for (int[] row : givenAndDue) {
            DeoptMachine machine = new DeoptMachine(row[0], 8, 2, 1);
            CHECK.due("functions " + row[0] + ": last", machine.code(row[1] - 1, 2, 0), 0);
            CHECK.due("functions " + row[0] + ": one past", machine.code(row[1], 2, 0), -1);
            CHECK.due("functions " + row[0] + ": call last", machine.emit(0, Op.CALL0, row[1] - 1), DeoptMachine.OK);
            CHECK.due("functions " + row[0] + ": call past", machine.emit(0, Op.CALL0, row[1]), DeoptMachine.REFUSED);
        }
    }

    private static void codeLengthIsClamped() {
        int[][] givenAndDue = {{Integer.MIN_VALUE, 8}, {0, 8}, {7, 8}, {8, 8}, {9, 9}, {31, 31}, {32, 32}, {33, 32},
            {Integer.MAX_VALUE, 32}};
        for (int[] row : givenAndDue) {
            DeoptMachine machine = new DeoptMachine(2, row[0], 2, 1);
            for (int i = 0; i < row[1]; i++) {
                CHECK.due("codeLength " + row[0] + ": emit " + i, machine.emit(1, Op.JUMP, row[1] - 1), DeoptMachine.OK);
            }
            CHECK.due("codeLength " + row[0] + ": full", machine.emit(1, Op.JUMP, 0), DeoptMachine.FULL);
            CHECK.due("codeLength " + row[0] + ": target", machine.emit(1, Op.JUMP, row[1]), DeoptMachine.REFUSED);
            CHECK.due("codeLength " + row[0] + ": length", machine.code(1, 2, 0), row[1]);
        }
    }

    private static void depthIsClamped() {
        int[][] givenAndDue = {{Integer.MIN_VALUE, 2}, {0, 2}, {1, 2}, {2, 2}, {3, 3}, {7, 7}, {8, 8}, {9, 8},
            {Integer.MAX_VALUE, 8}};
        for (int[] row : givenAndDue) {
            DeoptMachine machine = new DeoptMachine(2, 8, row[0], 1);
            Programs.define(machine, 0, Op.CALL0, 0, Op.RET, 0);
            machine.start(0, 0, 0);
            CHECK.due("depth " + row[0] + ": run", machine.run(64), DeoptMachine.DEPTH);
            CHECK.due("depth " + row[0] + ": frames", machine.status(2), row[1]);
        }
    }

    private static void heatDecidesNothing() {
        int[] first = null;
        for (int heat : new int[] {Integer.MIN_VALUE, 0, 1, 2, 64, 65, Integer.MAX_VALUE}) {
            DeoptMachine machine = new DeoptMachine(2, 16, 3, heat);
            Programs.define(machine, 0, Op.LOAD, 0, Op.PUSH, 1, Op.SUB, 0, Op.STORE, 0, Op.GET, 0, Op.PUSH, 3, Op.ADD, 0,
                    Op.PUT, 0, Op.LOAD, 0, Op.JUMP_IF, 0, Op.GET, 0, Op.RET, 0);
            machine.assume(0);
            machine.start(0, 200, 0);
            CHECK.due("heat " + heat + ": run", machine.run(64), DeoptMachine.PAUSED);
            CHECK.due("heat " + heat + ": global", machine.global(0), 65 * 3);
            int[] now = Readings.of(machine);
            if (first != null) {
                CHECK.unchanged("heat " + heat, machine, first);
            }
            first = now;
        }
    }

    private static void objectsAreApart() {
        DeoptMachine one = new DeoptMachine(2, 8, 2, 1);
        int[] before = Readings.of(one);
        DeoptMachine other = new DeoptMachine(2, 8, 2, 1);
        Programs.define(other, 0, Op.PUSH, 1, Op.PRINT, 0, Op.CALL0, 1, Op.RET, 0);
        other.setGlobal(0, 4);
        other.assume(1);
        other.start(0, 1, 2);
        other.run(9);
        CHECK.unchanged("another object", one, before);
    }

    private static void gettersChangeNothing() {
        DeoptMachine machine = Programs.busy();
        int[] before = Readings.of(machine);
        int[] odd = {Integer.MIN_VALUE, -1, 0, 1, 2, 3, 7, 8, 12, 13, 16, 32, Integer.MAX_VALUE};
        for (int i : odd) {
            machine.global(i);
            machine.assumed(i);
            machine.status(i);
            machine.output(i);
            for (int j : odd) {
                machine.frame(i, j);
                for (int k : odd) {
                    machine.code(i, j, k);
                }
            }
        }
        CHECK.unchanged("the getters", machine, before);
    }
}
