/** Promise 5: code. */
public final class Promise05CodeTest {
    private static final Check CHECK = new Check();
    private static final int[] ODD = {Integer.MIN_VALUE, -1, 0, 1, 2, 3, 4, 31, 32, Integer.MAX_VALUE};

    public static void main(String[] args) {
        noSuchFunction();
        noSuchPart();
        instructions(false);
        instructions(true);
        CHECK.end();
    }

    private static void noSuchFunction() {
        DeoptMachine machine = filled();
        for (int f : new int[] {Integer.MIN_VALUE, -1, 3, 8, Integer.MAX_VALUE}) {
            for (int part = -1; part <= 4; part++) {
                CHECK.due("code(" + f + ", " + part + ", 0)", machine.code(f, part, 0), -1);
            }
        }
    }

    private static void noSuchPart() {
        for (int part : new int[] {Integer.MIN_VALUE, -1, 4, 5, Integer.MAX_VALUE}) {
            for (int i : ODD) {
                CHECK.due("code(1, " + part + ", " + i + ")", filled().code(1, part, i), -1);
            }
        }
    }

    private static void instructions(boolean sealed) {
        DeoptMachine machine = filled();
        if (sealed) {
            machine.seal(1);
        }
        int[] ops = {Op.PUSH, Op.PUSH, Op.ADD, Op.RET};
        int[] operands = {-5, 77, 0, 0};
        for (int i : ODD) {
            boolean there = i >= 0 && i < 4;
            CHECK.due("code(1, 0, " + i + ")", machine.code(1, 0, i), there ? ops[i] : -1);
            CHECK.due("code(1, 1, " + i + ")", machine.code(1, 1, i), there ? operands[i] : -1);
            CHECK.due("code(1, 2, " + i + ")", machine.code(1, 2, i), 4);
            CHECK.due("code(1, 3, " + i + ")", machine.code(1, 3, i), sealed ? 1 : 0);
            CHECK.due("code(2, 0, " + i + ")", machine.code(2, 0, i), -1);
            CHECK.due("code(2, 1, " + i + ")", machine.code(2, 1, i), -1);
            CHECK.due("code(2, 2, " + i + ")", machine.code(2, 2, i), 0);
            CHECK.due("code(2, 3, " + i + ")", machine.code(2, 3, i), 0);
        }
    }

    private static DeoptMachine filled() {
        DeoptMachine machine = new DeoptMachine(3, 32, 2, 1);
        Programs.feed(machine, 1, Op.PUSH, -5, Op.PUSH, 77, Op.ADD, 99, Op.RET, -99);
        return machine;
    }
}
