/** Promise 2: emit and the instructions. What the instructions do is in Promise07RunTest too. */
public final class Promise02EmitTest {
    private static final Check CHECK = new Check();

    private static final int FUNCTIONS = 5;
    private static final int CODE_LENGTH = 16;
    private static final int ANY = -1;
    private static final int IGNORED = -2;

    // The table of the document: how many operands, least and greatest height needed, change of height.
    private static final int[][] TABLE = {
        {ANY, 0, 5, 1}, {4, 0, 5, 1}, {4, 1, 6, -1}, {8, 0, 5, 1}, {8, 1, 6, -1},
        {IGNORED, 2, 6, -1}, {IGNORED, 2, 6, -1}, {IGNORED, 2, 6, -1}, {IGNORED, 2, 6, -1}, {IGNORED, 2, 6, -1},
        {CODE_LENGTH, 0, 0, 0}, {CODE_LENGTH, 1, 1, -1},
        {FUNCTIONS, 0, 5, 1}, {FUNCTIONS, 1, 6, 0}, {FUNCTIONS, 2, 6, -1},
        {IGNORED, 1, 6, -1}, {IGNORED, 1, 1, -1}};

    private static final int[] OPERANDS = {Integer.MIN_VALUE, -1, 0, 1, 3, 4, 5, 7, 8, 15, 16, 31, 32, Integer.MAX_VALUE};

    public static void main(String[] args) {
        wrongFunctions();
        wrongOps();
        sealedFunctionIsRefused();
        everyOpAtEveryHeightWithEveryOperand();
        fullComesBeforeHeight();
        operandComesBeforeFull();
        heightFollowsTheList();
        arithmetic();
        CHECK.end();
    }

    private static void wrongFunctions() {
        for (int f : new int[] {Integer.MIN_VALUE, -1, FUNCTIONS, 8, Integer.MAX_VALUE}) {
            DeoptMachine machine = fresh();
            int[] before = Readings.of(machine);
            CHECK.due("emit(" + f + ", 0, 0)", machine.emit(f, Op.PUSH, 0), DeoptMachine.REFUSED);
            CHECK.unchanged("emit(" + f + ", 0, 0)", machine, before);
        }
    }

    private static void wrongOps() {
        for (int op : new int[] {Integer.MIN_VALUE, -1, 17, 18, Integer.MAX_VALUE}) {
            DeoptMachine machine = fresh();
            int[] before = Readings.of(machine);
            CHECK.due("emit(0, " + op + ", 0)", machine.emit(0, op, 0), DeoptMachine.REFUSED);
            CHECK.unchanged("emit(0, " + op + ", 0)", machine, before);
        }
    }

    private static void sealedFunctionIsRefused() {
        DeoptMachine machine = fresh();
        Programs.define(machine, 1, Op.PUSH, 3, Op.RET, 0);
        int[] before = Readings.of(machine);
        for (int op = 0; op <= 16; op++) {
            CHECK.due("emit to sealed, op " + op, machine.emit(1, op, 0), DeoptMachine.REFUSED);
        }
        CHECK.unchanged("emit to sealed", machine, before);
    }

    private static void everyOpAtEveryHeightWithEveryOperand() {
        for (int op = 0; op < TABLE.length; op++) {
            for (int height = 0; height <= 6; height++) {
                for (int operand : OPERANDS) {
                    oneEmit(op, height, operand);
                }
            }
        }
    }

    private static void oneEmit(int op, int height, int operand) {
        String call = "emit(2, " + op + ", " + operand + ") at height " + height;
        DeoptMachine machine = fresh();
        for (int i = 0; i < height; i++) {
            Programs.feed(machine, 2, Op.PUSH, -9);
        }
        int[] before = Readings.of(machine);
        int[] row = TABLE[op];
        int want = DeoptMachine.OK;
        if (row[0] >= 0 && (operand < 0 || operand >= row[0])) {
            want = DeoptMachine.REFUSED;
        } else if (height < row[1] || height > row[2]) {
            want = DeoptMachine.HEIGHT;
        }
        CHECK.due(call, machine.emit(2, op, operand), want);
        if (want != DeoptMachine.OK) {
            CHECK.unchanged(call, machine, before);
            return;
        }
        int kept = row[0] == IGNORED ? 0 : operand;
        CHECK.due(call + ": op", machine.code(2, 0, height), op);
        CHECK.due(call + ": operand", machine.code(2, 1, height), kept);
        if (kept != -1) {
            CHECK.changedOnly(call, machine, before, "code(2, 0, " + height + ")", "code(2, 1, " + height + ")", "code(2, 2)");
        }
        CHECK.due(call + ": height after", heightAtEnd(machine), height + row[3]);
    }

    /** The height at the end of function 2: so many values can be stored away before HEIGHT. */
    private static int heightAtEnd(DeoptMachine machine) {
        int height = 0;
        while (machine.emit(2, Op.STORE, 0) == DeoptMachine.OK) {
            height++;
        }
        CHECK.due("STORE at height 0", machine.emit(2, Op.STORE, 0), DeoptMachine.HEIGHT);
        return height;
    }

    private static void fullComesBeforeHeight() {
        DeoptMachine machine = fresh();
        for (int i = 0; i < CODE_LENGTH; i++) {
            CHECK.due("emit " + i, machine.emit(0, Op.JUMP, 0), DeoptMachine.OK);
        }
        int[] before = Readings.of(machine);
        CHECK.due("emit to full, height fits", machine.emit(0, Op.PUSH, 0), DeoptMachine.FULL);
        CHECK.due("emit to full, height does not fit", machine.emit(0, Op.ADD, 0), DeoptMachine.FULL);
        CHECK.due("emit to full, RET at 0", machine.emit(0, Op.RET, 0), DeoptMachine.FULL);
        CHECK.unchanged("emit to full", machine, before);
        CHECK.due("emit to another", machine.emit(1, Op.PUSH, 0), DeoptMachine.OK);
    }

    private static void operandComesBeforeFull() {
        DeoptMachine machine = fresh();
        for (int i = 0; i < CODE_LENGTH; i++) {
            machine.emit(0, Op.JUMP, 0);
        }
        CHECK.due("full, operand wrong", machine.emit(0, Op.LOAD, 4), DeoptMachine.REFUSED);
        CHECK.due("full, op wrong", machine.emit(0, 17, 0), DeoptMachine.REFUSED);
        CHECK.due("height and operand wrong", machine.emit(1, Op.STORE, 4), DeoptMachine.REFUSED);
    }

    private static void heightFollowsTheList() {
        DeoptMachine machine = fresh();
        Programs.feed(machine, 0, Op.PUSH, 1, Op.RET, 0);
        CHECK.due("STORE after RET", machine.emit(0, Op.STORE, 0), DeoptMachine.HEIGHT);
        Programs.feed(machine, 0, Op.JUMP, 0, Op.PUSH, 1, Op.JUMP_IF, 0);
        CHECK.due("RET after JUMP_IF", machine.emit(0, Op.RET, 0), DeoptMachine.HEIGHT);
        machine.erase(0);
        CHECK.due("RET after erase", machine.emit(0, Op.RET, 0), DeoptMachine.HEIGHT);
        CHECK.due("JUMP after erase", machine.emit(0, Op.JUMP, 15), DeoptMachine.OK);
    }

    private static void arithmetic() {
        int least = Integer.MIN_VALUE;
        int most = Integer.MAX_VALUE;
        int[] values = {least, least + 1, -7, -2, -1, 0, 1, 2, 7, 46341, 65536, most - 1, most};
        for (int a : values) {
            for (int b : values) {
                String at = " of " + a + " and " + b;
                CHECK.due("ADD" + at, Programs.calculate(Op.ADD, a, b), (int) ((long) a + b));
                CHECK.due("SUB" + at, Programs.calculate(Op.SUB, a, b), (int) ((long) a - b));
                CHECK.due("MUL" + at, Programs.calculate(Op.MUL, a, b), (int) ((long) a * b));
                CHECK.due("LESS" + at, Programs.calculate(Op.LESS, a, b), (long) a - b < 0 ? 1 : 0);
                if (b != 0) {
                    CHECK.due("DIV" + at, Programs.calculate(Op.DIV, a, b), (int) ((long) a / b));
                }
            }
        }
        CHECK.due("DIV cuts toward 0", Programs.calculate(Op.DIV, -7, 2), -3);
        CHECK.due("least / -1", Programs.calculate(Op.DIV, least, -1), least);
    }

    private static DeoptMachine fresh() {
        return new DeoptMachine(FUNCTIONS, CODE_LENGTH, 4, 1);
    }
}
