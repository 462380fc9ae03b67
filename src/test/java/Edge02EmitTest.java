import java.io.IOException;
import java.util.function.Consumer;

/** The edges of Promise 2: emit and the instructions. A row of the table counts as a sentence. */
public final class Edge02EmitTest {
    private static final int FUNCTIONS = 5;
    private static final int CODE_LENGTH = 20;
    private static final int LEAST = Integer.MIN_VALUE;
    private static final int MOST = Integer.MAX_VALUE;
    private static final int ANY = -1;
    private static final int IGNORED = -2;
    private static final int[] VALUES = {LEAST, LEAST + 1, -1, 0, 1, MOST - 1, MOST};

    public static void main(String[] args) throws IOException {
        Edges edges = new Edges(2);
        edges.holds("`REFUSED` if f is not in 0..functions-1.", Edge02EmitTest::noSuchFunction);
        edges.holds("`REFUSED` if f is sealed.", Edge02EmitTest::sealedFunction);
        edges.holds("`REFUSED` if op is not in 0..16.", Edge02EmitTest::noSuchOp);
        edges.holds("`REFUSED` if the operand is outside the range in the table.", Edge02EmitTest::operandOutside);
        edges.holds("For PUSH and for ops whose operand is ignored this never happens.", Edge02EmitTest::operandNeverOutside);
        edges.holds("`FULL` if f has `codeLength` instructions.", Edge02EmitTest::fullFunction);
        edges.holds("`HEIGHT` if the 'needs' of the op does not hold for the height at the end of the list.",
                Edge02EmitTest::heightChangesNothing);
        edges.holds("Else the instruction is appended to f, and the answer is `OK`.", Edge02EmitTest::appended);
        edges.holds("Nothing else changes.", Edge02EmitTest::nothingElseChanges);
        edges.holds("An ignored operand is kept as 0, whatever was given.", Edge02EmitTest::ignoredOperandIsZero);
        edges.holds("'h' is the height before the instruction: 0 at position 0, and at every later position the height "
                + "'after' of the instruction just before it in the list (list order, whether or not control passes that "
                + "way).", Edge02EmitTest::heightInListOrder);
        edges.holds("The height at the end of an empty list is therefore 0, and at the end of any other list it is the "
                + "'after' of its last instruction.", Edge02EmitTest::heightAtTheEndOfAList);
        rows(edges);
        edges.holds("ADD, SUB and MUL wrap.", Edge02EmitTest::wraps);
        edges.holds("DIV cuts toward 0; least int / -1 is least int.", Edge02EmitTest::divides);
        edges.holds("The operand of a call is the number of the called function.", Edge02EmitTest::calledFunction);
        edges.holds("For a call, 'after' counts the returned value.", Edge02EmitTest::afterACall);
        edges.end();
    }

    private static void rows(Edges edges) {
        row(edges, "| 0 | PUSH | any int c | h < 6 | h + 1 | push c |", 0, ANY, 0, 5, 1, Edge02EmitTest::push);
        row(edges, "| 1 | LOAD | local 0..3 | h < 6 | h + 1 | push the local |", 1, 4, 0, 5, 1, Edge02EmitTest::load);
        row(edges, "| 2 | STORE | local 0..3 | h >= 1 | h - 1 | pop into the local |", 2, 4, 1, 6, -1, Edge02EmitTest::store);
        row(edges, "| 3 | GET | global 0..7 | h < 6 | h + 1 | push the global |", 3, 8, 0, 5, 1, Edge02EmitTest::get);
        row(edges, "| 4 | PUT | global 0..7 | h >= 1 | h - 1 | pop, write it to the global (Promise 8) |", 4, 8, 1, 6, -1,
                Edge02EmitTest::put);
        row(edges, "| 5 | ADD | ignored | h >= 2 | h - 1 | pop b, pop a, push a + b |", 5, IGNORED, 2, 6, -1,
                check -> calculates(check, Op.ADD, 7, 2, 9));
        row(edges, "| 6 | SUB | ignored | h >= 2 | h - 1 | pop b, pop a, push a - b |", 6, IGNORED, 2, 6, -1,
                check -> calculates(check, Op.SUB, 7, 2, 5));
        row(edges, "| 7 | MUL | ignored | h >= 2 | h - 1 | pop b, pop a, push a * b |", 7, IGNORED, 2, 6, -1,
                check -> calculates(check, Op.MUL, 7, 2, 14));
        row(edges, "| 8 | DIV | ignored | h >= 2 | h - 1 | pop b, pop a, push a / b |", 8, IGNORED, 2, 6, -1,
                check -> calculates(check, Op.DIV, 7, 2, 3));
        row(edges, "| 9 | LESS | ignored | h >= 2 | h - 1 | pop b, pop a, push 1 if a < b, else 0 (signed) |", 9, IGNORED, 2,
                6, -1, Edge02EmitTest::less);
        row(edges, "| 10 | JUMP | 0..codeLength-1 | h == 0 | 0 | go to position operand |", 10, CODE_LENGTH, 0, 0, 0,
                Edge02EmitTest::jump);
        row(edges, "| 11 | JUMP_IF | 0..codeLength-1 | h == 1 | 0 | pop; if not 0 go to position operand |", 11,
                CODE_LENGTH, 1, 1, -1, Edge02EmitTest::jumpIf);
        row(edges, "| 12 | CALL0 | 0..functions-1 | h < 6 | h + 1 | call with no arguments |", 12, FUNCTIONS, 0, 5, 1,
                check -> calls(check, Op.CALL0, 0, 0));
        row(edges, "| 13 | CALL1 | 0..functions-1 | h >= 1 | h | call with one argument |", 13, FUNCTIONS, 1, 6, 0,
                check -> calls(check, Op.CALL1, 40, 0));
        row(edges, "| 14 | CALL2 | 0..functions-1 | h >= 2 | h - 1 | call with two arguments |", 14, FUNCTIONS, 2, 6, -1,
                check -> calls(check, Op.CALL2, 30, 40));
        row(edges, "| 15 | PRINT | ignored | h >= 1 | h - 1 | pop, append it to the output |", 15, IGNORED, 1, 6, -1,
                Edge02EmitTest::print);
        row(edges, "| 16 | RET | ignored | h == 1 | 0 | pop, return it |", 16, IGNORED, 1, 1, -1, Edge02EmitTest::ret);
    }

    /** One row: the count of its operands, the least and greatest height it needs, its change of height, its meaning. */
    private static void row(Edges edges, String text, int op, int operands, int least, int greatest, int change,
            Consumer<Check> meaning) {
        edges.holds(text, check -> operandsOf(check, op, operands, least));
        edges.holds(text, check -> heightsOf(check, op, least, greatest, change));
        edges.holds(text, meaning);
    }

    private static void operandsOf(Check check, int op, int operands, int height) {
        int last = operands < 0 ? MOST : operands - 1;
        for (int operand : new int[] {0, 1, last - 1, last}) {
            check.due("op " + op + " with " + operand, atHeight(height).emit(2, op, operand), DeoptMachine.OK);
        }
        int outside = operands < 0 ? DeoptMachine.OK : DeoptMachine.REFUSED;
        for (int operand : Edges.outside(0, operands < 0 ? 100 : last)) {
            check.due("op " + op + " with " + operand, atHeight(height).emit(2, op, operand), outside);
        }
    }

    private static void heightsOf(Check check, int op, int least, int greatest, int change) {
        for (int height = 0; height <= 6; height++) {
            DeoptMachine machine = atHeight(height);
            boolean fits = height >= least && height <= greatest;
            String at = "op " + op + " at height " + height;
            check.due(at, machine.emit(2, op, 0), fits ? DeoptMachine.OK : DeoptMachine.HEIGHT);
            check.due(at + ": after", heightAtEnd(machine), fits ? height + change : height);
        }
    }

    private static DeoptMachine atHeight(int height) {
        DeoptMachine machine = new DeoptMachine(FUNCTIONS, CODE_LENGTH, 4, 1);
        for (int i = 0; i < height; i++) {
            Programs.feed(machine, 2, Op.PUSH, 60 + i);
        }
        return machine;
    }

    /** So many values can be stored away at the end of function 2. */
    private static int heightAtEnd(DeoptMachine machine) {
        int height = 0;
        while (height < 10 && machine.emit(2, Op.STORE, 0) == DeoptMachine.OK) {
            height++;
        }
        return height;
    }

    private static void noSuchFunction(Check check) {
        DeoptMachine machine = atHeight(1);
        int[] before = Readings.of(machine);
        for (int f : Edges.outside(0, FUNCTIONS - 1)) {
            for (int op = 0; op <= 16; op++) {
                check.due("emit(" + f + ", " + op + ", 0)", machine.emit(f, op, 0), DeoptMachine.REFUSED);
            }
        }
        check.unchanged("emit to no function", machine, before);
        check.due("emit to the first", machine.emit(0, Op.PUSH, 0), DeoptMachine.OK);
        check.due("emit to the last", machine.emit(FUNCTIONS - 1, Op.PUSH, 0), DeoptMachine.OK);
    }

    private static void sealedFunction(Check check) {
        DeoptMachine machine = atHeight(1);
        Programs.define(machine, 2, Op.RET, 0);
        int[] before = Readings.of(machine);
        for (int op = 0; op <= 16; op++) {
            check.due("emit(2, " + op + ", 0)", machine.emit(2, op, 0), DeoptMachine.REFUSED);
        }
        check.unchanged("emit to a sealed one", machine, before);
        machine.erase(2);
        check.due("emit after erase", machine.emit(2, Op.PUSH, 0), DeoptMachine.OK);
    }

    private static void noSuchOp(Check check) {
        for (int height = 0; height <= 6; height++) {
            DeoptMachine machine = atHeight(height);
            int[] before = Readings.of(machine);
            for (int op : Edges.outside(0, 16)) {
                check.due("op " + op + " at height " + height, machine.emit(2, op, 0), DeoptMachine.REFUSED);
            }
            check.unchanged("emit of no op", machine, before);
        }
        check.due("the first op", atHeight(0).emit(2, 0, 0), DeoptMachine.OK);
        check.due("the last op", atHeight(1).emit(2, 16, 0), DeoptMachine.OK);
    }

    private static void operandOutside(Check check) {
        int[][] opsAndLast = {{Op.LOAD, 3}, {Op.STORE, 3}, {Op.GET, 7}, {Op.PUT, 7}, {Op.JUMP, CODE_LENGTH - 1},
            {Op.JUMP_IF, CODE_LENGTH - 1}, {Op.CALL0, FUNCTIONS - 1}, {Op.CALL1, FUNCTIONS - 1}, {Op.CALL2, FUNCTIONS - 1}};
        for (int[] row : opsAndLast) {
            for (int height = 0; height <= 6; height++) {
                DeoptMachine machine = atHeight(height);
                int[] before = Readings.of(machine);
                for (int operand : Edges.outside(0, row[1])) {
                    check.due("op " + row[0] + " with " + operand, machine.emit(2, row[0], operand), DeoptMachine.REFUSED);
                }
                check.unchanged("a wrong operand", machine, before);
            }
        }
    }

    private static void operandNeverOutside(Check check) {
        for (int operand : Edges.outside(0, 31)) {
            check.due("PUSH " + operand, atHeight(0).emit(2, Op.PUSH, operand), DeoptMachine.OK);
            for (int op = Op.ADD; op <= Op.LESS; op++) {
                check.due("op " + op + " with " + operand, atHeight(2).emit(2, op, operand), DeoptMachine.OK);
                check.due("op " + op + " too low with " + operand, atHeight(1).emit(2, op, operand), DeoptMachine.HEIGHT);
            }
            check.due("PRINT with " + operand, atHeight(1).emit(2, Op.PRINT, operand), DeoptMachine.OK);
            check.due("RET with " + operand, atHeight(1).emit(2, Op.RET, operand), DeoptMachine.OK);
        }
    }

    private static void fullFunction(Check check) {
        for (int length = 8; length <= 32; length++) {
            DeoptMachine machine = new DeoptMachine(2, length, 2, 1);
            for (int i = 0; i < length; i++) {
                check.due("emit " + i + " of " + length, machine.emit(1, Op.JUMP, 0), DeoptMachine.OK);
            }
            int[] before = Readings.of(machine);
            check.due("one more than " + length, machine.emit(1, Op.JUMP, 0), DeoptMachine.FULL);
            check.due("one more, too low", machine.emit(1, Op.STORE, 0), DeoptMachine.FULL);
            check.unchanged("emit to a full one", machine, before);
            check.due("the other function", machine.emit(0, Op.JUMP, 0), DeoptMachine.OK);
            machine.erase(1);
            check.due("after erase", machine.emit(1, Op.JUMP, 0), DeoptMachine.OK);
        }
    }

    private static void heightChangesNothing(Check check) {
        int[][] opsAndHeights = {{Op.PUSH, 6}, {Op.LOAD, 6}, {Op.STORE, 0}, {Op.GET, 6}, {Op.PUT, 0}, {Op.ADD, 1},
            {Op.SUB, 1}, {Op.MUL, 1}, {Op.DIV, 1}, {Op.LESS, 1}, {Op.JUMP, 1}, {Op.JUMP_IF, 0}, {Op.JUMP_IF, 2},
            {Op.CALL0, 6}, {Op.CALL1, 0}, {Op.CALL2, 1}, {Op.PRINT, 0}, {Op.RET, 0}, {Op.RET, 2}};
        for (int[] row : opsAndHeights) {
            DeoptMachine machine = atHeight(row[1]);
            int[] before = Readings.of(machine);
            check.due("op " + row[0] + " at height " + row[1], machine.emit(2, row[0], 0), DeoptMachine.HEIGHT);
            check.unchanged("op " + row[0] + " at height " + row[1], machine, before);
        }
    }

    private static void appended(Check check) {
        DeoptMachine machine = atHeight(3);
        check.due("emit", machine.emit(2, Op.GET, 7), DeoptMachine.OK);
        check.due("length", machine.code(2, 2, 0), 4);
        check.due("the one before", machine.code(2, 1, 2), 62);
        check.due("its op", machine.code(2, 0, 3), Op.GET);
        check.due("its operand", machine.code(2, 1, 3), 7);
    }

    private static void nothingElseChanges(Check check) {
        for (int state = DeoptMachine.IDLE; state <= DeoptMachine.DONE; state++) {
            DeoptMachine machine = Programs.inState(state);
            int[] before = Readings.of(machine);
            check.due("emit", machine.emit(2, Op.GET, 7), DeoptMachine.OK);
            check.changedOnly("emit in state " + state, machine, before, "code(2, 0, 2)", "code(2, 1, 2)", "code(2, 2)");
        }
    }

    private static void ignoredOperandIsZero(Check check) {
        for (int op : new int[] {Op.ADD, Op.SUB, Op.MUL, Op.DIV, Op.LESS, Op.PRINT, Op.RET}) {
            int height = op == Op.PRINT || op == Op.RET ? 1 : 2;
            for (int operand : new int[] {LEAST, -1, 0, 1, 31, 32, MOST}) {
                DeoptMachine machine = atHeight(height);
                machine.emit(2, op, operand);
                check.due("op " + op + " with " + operand, machine.code(2, 1, height), 0);
            }
        }
    }

    private static void heightInListOrder(Check check) {
        DeoptMachine machine = atHeight(0);
        check.due("position 0", machine.emit(2, Op.JUMP, 0), DeoptMachine.OK);
        check.due("after JUMP", machine.emit(2, Op.STORE, 0), DeoptMachine.HEIGHT);
        Programs.feed(machine, 2, Op.PUSH, 1, Op.RET, 0);
        check.due("after RET", machine.emit(2, Op.PRINT, 0), DeoptMachine.HEIGHT);
        Programs.feed(machine, 2, Op.PUSH, 1, Op.JUMP_IF, 0);
        check.due("after JUMP_IF", machine.emit(2, Op.RET, 0), DeoptMachine.HEIGHT);
        Programs.feed(machine, 2, Op.PUSH, 1, Op.PUSH, 2);
        check.due("where control never passes", machine.emit(2, Op.ADD, 0), DeoptMachine.OK);
    }

    private static void heightAtTheEndOfAList(Check check) {
        check.due("of an empty list", heightAtEnd(atHeight(0)), 0);
        for (int height = 1; height <= 6; height++) {
            check.due("of a list", heightAtEnd(atHeight(height)), height);
        }
        DeoptMachine machine = atHeight(6);
        machine.erase(2);
        check.due("of an emptied list", heightAtEnd(machine), 0);
    }

    private static void push(Check check) {
        for (int value : VALUES) {
            check.due("PUSH " + value, Programs.finished(5, 6, Op.PUSH, value, Op.RET, 0).status(1), value);
        }
    }

    private static void load(Check check) {
        for (int i = 0; i < 4; i++) {
            DeoptMachine machine = Programs.finished(70, 71, Op.PUSH, 72, Op.STORE, 2, Op.PUSH, 73, Op.STORE, 3, Op.LOAD, i,
                    Op.RET, 0);
            check.due("LOAD " + i, machine.status(1), 70 + i);
        }
    }

    private static void store(Check check) {
        for (int i = 0; i < 4; i++) {
            DeoptMachine machine = new DeoptMachine(2, 8, 2, 1);
            Programs.define(machine, 0, Op.PUSH, 60, Op.PUSH, 9, Op.STORE, i, Op.CALL1, 1, Op.RET, 0);
            machine.start(0, 70, 71);
            machine.run(1);
            check.frameDue("STORE " + i, machine, 0, 0, 3, 1, i == 0 ? 9 : 70, i == 1 ? 9 : 71, i == 2 ? 9 : 0,
                    i == 3 ? 9 : 0, 60);
        }
    }

    private static void get(Check check) {
        for (int g = 0; g < 8; g++) {
            DeoptMachine machine = new DeoptMachine(2, 8, 2, 1);
            for (int i = 0; i < 8; i++) {
                machine.setGlobal(i, LEAST + i);
            }
            Programs.define(machine, 0, Op.GET, g, Op.RET, 0);
            machine.start(0, 0, 0);
            machine.run(1);
            check.due("GET " + g, machine.status(1), LEAST + g);
        }
    }

    private static void put(Check check) {
        for (int g = 0; g < 8; g++) {
            DeoptMachine machine = Programs.finished(MOST, 0, Op.LOAD, 0, Op.PUT, g, Op.PUSH, 0, Op.RET, 0);
            for (int i = 0; i < 8; i++) {
                check.due("global(" + i + ") after PUT " + g, machine.global(i), i == g ? MOST : 0);
            }
        }
    }

    /** The op takes the two topmost of three values. */
    private static void calculates(Check check, int op, int a, int b, int due) {
        DeoptMachine machine = new DeoptMachine(2, 8, 2, 1);
        Programs.define(machine, 0, Op.PUSH, 60, Op.LOAD, 0, Op.LOAD, 1, op, 0, Op.CALL2, 1, Op.RET, 0);
        machine.start(0, a, b);
        check.due("op " + op, machine.run(1), DeoptMachine.MISSING);
        check.frameDue("op " + op, machine, 0, 0, 4, 2, a, b, 0, 0, 60, due);
    }

    private static void less(Check check) {
        calculates(check, Op.LESS, 2, 7, 1);
        int[][] rows = {{0, 0, 0}, {1, 0, 0}, {0, 1, 1}, {-1, 0, 1}, {0, -1, 0}, {LEAST, MOST, 1}, {MOST, LEAST, 0},
            {LEAST, LEAST, 0}, {MOST, MOST, 0}, {LEAST, LEAST + 1, 1}, {MOST, MOST - 1, 0}, {LEAST, 1, 1}, {MOST, -1, 0}};
        for (int[] row : rows) {
            check.due(row[0] + " < " + row[1], Programs.calculate(Op.LESS, row[0], row[1]), row[2]);
        }
    }

    /** To the last position of the longest list, and from there to the first. */
    private static void jump(Check check) {
        DeoptMachine machine = new DeoptMachine(2, 32, 2, 1);
        Programs.feed(machine, 0, Op.JUMP, 31);
        while (machine.code(0, 2, 0) < 31) {
            Programs.feed(machine, 0, Op.JUMP, 1);
        }
        Programs.define(machine, 0, Op.JUMP, 0);
        machine.start(0, 0, 0);
        check.due("run(1)", machine.run(1), DeoptMachine.PAUSED);
        check.due("position", machine.frame(0, 1), 31);
    }

    private static void jumpIf(Check check) {
        for (int value : VALUES) {
            DeoptMachine machine = Programs.finished(value, 0, Op.LOAD, 0, Op.JUMP_IF, 4, Op.PUSH, 80, Op.RET, 0,
                    Op.PUSH, 81, Op.RET, 0);
            check.due("JUMP_IF with " + value, machine.status(1), value == 0 ? 80 : 81);
        }
    }

    private static void calls(Check check, int op, int a, int b) {
        DeoptMachine machine = new DeoptMachine(8, 16, 2, 1);
        Programs.define(machine, 7, Op.JUMP, 0);
        Programs.feed(machine, 0, Op.PUSH, 30, Op.PUSH, 40, op, 7);
        while (machine.emit(0, Op.RET, 0) == DeoptMachine.HEIGHT) {
            Programs.feed(machine, 0, Op.ADD, 0);
        }
        machine.seal(0);
        machine.start(0, 0, 0);
        check.due("run", machine.run(1), DeoptMachine.PAUSED);
        check.frameDue("called", machine, 1, 7, 0, 0, a, b);
        check.due("pending of the caller", machine.frame(0, 2), 2 - (op - Op.CALL0));
    }

    private static void print(Check check) {
        for (int value : VALUES) {
            DeoptMachine machine = Programs.finished(value, 0, Op.PUSH, 60, Op.LOAD, 0, Op.PRINT, 0, Op.RET, 0);
            check.due("output(0)", machine.output(0), value);
            check.due("cells", machine.status(3), 1);
            check.due("the value below", machine.status(1), 60);
        }
    }

    private static void ret(Check check) {
        for (int value : VALUES) {
            check.due("RET of " + value, Programs.finished(value, 0, Op.LOAD, 0, Op.RET, 0).status(1), value);
        }
    }

    private static void wraps(Check check) {
        for (int a : VALUES) {
            for (int b : VALUES) {
                check.due(a + " + " + b, Programs.calculate(Op.ADD, a, b), (int) ((long) a + b));
                check.due(a + " - " + b, Programs.calculate(Op.SUB, a, b), (int) ((long) a - b));
                check.due(a + " * " + b, Programs.calculate(Op.MUL, a, b), (int) ((long) a * b));
            }
        }
    }

    private static void divides(Check check) {
        int[][] rows = {{7, 2, 3}, {-7, 2, -3}, {7, -2, -3}, {-7, -2, 3}, {1, 2, 0}, {-1, 2, 0}, {0, 5, 0}, {0, -5, 0},
            {LEAST, 1, LEAST}, {LEAST, -1, LEAST}, {MOST, -1, -MOST}, {LEAST, LEAST, 1}, {MOST, LEAST, 0}, {LEAST, MOST, -1},
            {LEAST, 2, -1073741824}};
        for (int[] row : rows) {
            check.due(row[0] + " / " + row[1], Programs.calculate(Op.DIV, row[0], row[1]), row[2]);
        }
    }

    private static void calledFunction(Check check) {
        for (int f = 0; f < 8; f++) {
            DeoptMachine machine = new DeoptMachine(8, 8, 3, 1);
            for (int i = 0; i < 8; i++) {
                Programs.define(machine, i, Op.CALL0, f, Op.RET, 0);
            }
            machine.start((f + 1) % 8, 0, 0);
            machine.run(1);
            check.due("the function of CALL0 " + f, machine.frame(1, 0), f);
        }
    }

    private static void afterACall(Check check) {
        for (int op = Op.CALL0; op <= Op.CALL2; op++) {
            int given = op - Op.CALL0;
            DeoptMachine machine = atHeight(given);
            Programs.feed(machine, 2, op, 0);
            check.due("height after op " + op, heightAtEnd(machine), 1);
        }
    }
}
