import java.io.IOException;

/** The edges of Promise 5: code. */
public final class Edge05CodeTest {
    private static final int[] ODD = {Integer.MIN_VALUE, -1, 0, 1, 2, 3, 4, 5, 31, 32, 1 << 16, Integer.MAX_VALUE};

    public static void main(String[] args) throws IOException {
        Edges edges = new Edges(5);
        edges.holds("`code(f, part, i)` reads function f, sealed or not.", Edge05CodeTest::sealedOrNot);
        edges.holds("It answers -1 if f is not in 0..functions-1.", Edge05CodeTest::noSuchFunction);
        edges.holds("part 0: the op at position i; -1 if i is not in 0..length-1.", Edge05CodeTest::ops);
        edges.holds("part 1: the operand at position i (0 for an ignored operand); -1 if i is not in 0..length-1.",
                Edge05CodeTest::operands);
        edges.holds("part 1: the operand at position i (0 for an ignored operand); -1 if i is not in 0..length-1.",
                Edge05CodeTest::ignoredOperands);
        edges.holds("part 2: the number of instructions; i is ignored.", Edge05CodeTest::numberOfInstructions);
        edges.holds("part 3: 1 if f is sealed, else 0; i is ignored.", Edge05CodeTest::sealedMark);
        edges.holds("any other part: -1.", Edge05CodeTest::noSuchPart);
        edges.holds("Here length is the number of instructions of f.", Edge05CodeTest::lengthOfThatFunction);
        edges.holds("Nothing changes.", Edge05CodeTest::nothingChanges);
        edges.end();
    }

    /** Function 1 is PUSH -5, PUSH 77, ADD, RET; function 2 is full; function 0 is empty. */
    private static DeoptMachine filled() {
        DeoptMachine machine = new DeoptMachine(3, 32, 2, 1);
        Programs.feed(machine, 1, Op.PUSH, -5, Op.PUSH, 77, Op.ADD, 99, Op.RET, -99);
        for (int i = 0; i < 32; i++) {
            Programs.feed(machine, 2, Op.JUMP, 31 - i);
        }
        return machine;
    }

    private static void sealedOrNot(Check check) {
        DeoptMachine machine = filled();
        DeoptMachine other = filled();
        other.seal(1);
        for (int i : ODD) {
            for (int part = 0; part <= 2; part++) {
                check.due("code(1, " + part + ", " + i + ")", other.code(1, part, i), machine.code(1, part, i));
            }
        }
        check.due("unsealed", machine.code(1, 0, 2), Op.ADD);
        check.due("sealed", other.code(1, 0, 2), Op.ADD);
    }

    private static void noSuchFunction(Check check) {
        for (int f : Edges.outside(0, 2)) {
            for (int part = -1; part <= 4; part++) {
                for (int i : ODD) {
                    check.due("code(" + f + ", " + part + ", " + i + ")", filled().code(f, part, i), -1);
                }
            }
        }
    }

    private static void ops(Check check) {
        int[] ops = {Op.PUSH, Op.PUSH, Op.ADD, Op.RET};
        for (int i : Edges.outside(0, 3)) {
            check.due("code(1, 0, " + i + ")", filled().code(1, 0, i), -1);
            check.due("code(0, 0, " + i + ")", filled().code(0, 0, i), -1);
        }
        for (int i = 0; i < 4; i++) {
            check.due("code(1, 0, " + i + ")", filled().code(1, 0, i), ops[i]);
        }
        check.due("first of a full one", filled().code(2, 0, 0), Op.JUMP);
        check.due("last of a full one", filled().code(2, 0, 31), Op.JUMP);
        check.due("past a full one", filled().code(2, 0, 32), -1);
        check.due("first of an empty one", filled().code(0, 0, 0), -1);
    }

    private static void operands(Check check) {
        int[] operands = {-5, 77, 0, 0};
        for (int i : Edges.outside(0, 3)) {
            check.due("code(1, 1, " + i + ")", filled().code(1, 1, i), -1);
            check.due("code(0, 1, " + i + ")", filled().code(0, 1, i), -1);
        }
        for (int i = 0; i < 4; i++) {
            check.due("code(1, 1, " + i + ")", filled().code(1, 1, i), operands[i]);
        }
        check.due("first of a full one", filled().code(2, 1, 0), 31);
        check.due("last of a full one", filled().code(2, 1, 31), 0);
        check.due("past a full one", filled().code(2, 1, 32), -1);
        check.due("first of an empty one", filled().code(0, 1, 0), -1);
        for (int operand : new int[] {Integer.MIN_VALUE, -1, Integer.MAX_VALUE}) {
            DeoptMachine machine = new DeoptMachine(2, 8, 2, 1);
            machine.emit(0, Op.PUSH, operand);
            check.due("PUSH " + operand, machine.code(0, 1, 0), operand);
        }
    }

    private static void ignoredOperands(Check check) {
        DeoptMachine machine = new DeoptMachine(2, 32, 2, 1);
        int[] ops = {Op.ADD, Op.SUB, Op.MUL, Op.DIV, Op.LESS, Op.PRINT, Op.RET};
        for (int op : ops) {
            machine.erase(0);
            Programs.feed(machine, 0, Op.PUSH, 1);
            if (op < Op.PRINT) {
                Programs.feed(machine, 0, Op.PUSH, 1);
            }
            int place = machine.code(0, 2, 0);
            machine.emit(0, op, 12345);
            check.due("operand of op " + op, machine.code(0, 1, place), 0);
        }
    }

    private static void numberOfInstructions(Check check) {
        for (int i : ODD) {
            check.due("code(0, 2, " + i + ")", filled().code(0, 2, i), 0);
            check.due("code(1, 2, " + i + ")", filled().code(1, 2, i), 4);
            check.due("code(2, 2, " + i + ")", filled().code(2, 2, i), 32);
        }
    }

    private static void sealedMark(Check check) {
        DeoptMachine machine = filled();
        machine.seal(1);
        for (int i : ODD) {
            check.due("empty: code(0, 3, " + i + ")", machine.code(0, 3, i), 0);
            check.due("sealed: code(1, 3, " + i + ")", machine.code(1, 3, i), 1);
            check.due("not sealed: code(2, 3, " + i + ")", machine.code(2, 3, i), 0);
        }
        machine.erase(1);
        check.due("erased", machine.code(1, 3, 0), 0);
    }

    private static void noSuchPart(Check check) {
        for (int part : Edges.outside(0, 3)) {
            for (int i : ODD) {
                for (int f = 0; f < 3; f++) {
                    check.due("code(" + f + ", " + part + ", " + i + ")", filled().code(f, part, i), -1);
                }
            }
        }
    }

    private static void lengthOfThatFunction(Check check) {
        DeoptMachine machine = filled();
        check.due("within the longer one", machine.code(2, 0, 4), Op.JUMP);
        check.due("past the shorter one", machine.code(1, 0, 4), -1);
        machine.erase(2);
        Programs.feed(machine, 2, Op.PUSH, 6);
        check.due("its new length", machine.code(2, 2, 0), 1);
        check.due("past its new length", machine.code(2, 1, 1), -1);
    }

    private static void nothingChanges(Check check) {
        for (int state = DeoptMachine.IDLE; state <= DeoptMachine.DONE; state++) {
            DeoptMachine machine = Programs.inState(state);
            int[] before = Readings.of(machine);
            for (int f : ODD) {
                for (int part : ODD) {
                    for (int i : ODD) {
                        machine.code(f, part, i);
                    }
                }
            }
            check.unchanged("code in state " + state, machine, before);
        }
    }
}
