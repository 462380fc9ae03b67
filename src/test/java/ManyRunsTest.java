import java.util.ArrayList;
import java.util.List;
import java.util.TreeMap;

/**
 * All promises together: long runs of calls, the same in every execution, on the class and on the model.
 * After each call the answer and everything readable must be equal. The class gets hints that the model
 * does not know, so a hint that alters an answer shows.
 */
public final class ManyRunsTest {
    private static final Check CHECK = new Check();
    private static final int RUNS = 3000;
    private static final int CALLS = 120;
    private static final int[] ODD = {Integer.MIN_VALUE, -1, 0, 1, 2, 3, 7, 8, 16, 17, 31, 32, 64, Integer.MAX_VALUE};

    private static long seed = 20240607L;
    private static final TreeMap<String, Integer> SEEN = new TreeMap<>();

    private int functions;
    private int codeLength;
    private DeoptMachine machine;
    private PlainModel model;
    private final List<String> calls = new ArrayList<>();

    public static void main(String[] args) {
        for (int run = 0; run < RUNS && CHECK.wrong() == 0; run++) {
            new ManyRunsTest().oneRun();
        }
        everyAnswerWasSeen();
        CHECK.end();
    }

    /** A list of numbers that looks random but is the same in every execution. */
    private static int below(int limit) {
        seed = seed * 6364136223846793005L + 1442695040888963407L;
        return (int) ((seed >>> 33) % limit);
    }

    private static boolean oneIn(int n) {
        return below(n) == 0;
    }

    private static int anyInt() {
        return oneIn(4) ? ODD[below(ODD.length)] : below(9) - 3;
    }

    private void oneRun() {
        functions = 2 + below(7);
        codeLength = 8 + below(25);
        int depth = 2 + below(7);
        machine = new DeoptMachine(functions, codeLength, depth, anyInt());
        model = new PlainModel(functions, codeLength, depth);
        calls.add("new DeoptMachine(" + functions + ", " + codeLength + ", " + depth + ")");
        for (int f = 0; f < functions; f++) {
            feedFunction(f);
        }
        for (int i = 0; i < CALLS && CHECK.wrong() == 0; i++) {
            oneCall();
        }
    }

    private void oneCall() {
        int f = oneIn(10) ? ODD[below(ODD.length)] : below(functions);
        int g = oneIn(10) ? ODD[below(ODD.length)] : below(8);
        int v = anyInt();
        int w = anyInt();
        switch (below(16)) {
            case 0: compare("erase(" + f + ")", machine.erase(f), model.erase(f)); break;
            case 1: feedFunction(below(functions)); break;
            case 2: compare("seal(" + f + ")", machine.seal(f), model.seal(f)); break;
            case 3: emit(f, oneIn(5) ? anyInt() : below(17), anyInt()); break;
            case 4: compare("setGlobal(" + g + ", " + v + ")", machine.setGlobal(g, v), model.setGlobal(g, v)); break;
            case 5: compare("assume(" + g + ")", machine.assume(g), model.assume(g)); break;
            case 6: compare("optimise(" + f + ")", machine.optimise(f), model.optimise(f)); break;
            case 7: if (oneIn(3)) compare("clearOutput()", machine.clearOutput(), model.clearOutput()); break;
            case 8: if (oneIn(3)) compare("abandon()", machine.abandon(), model.abandon()); break;
            case 9: case 10: start(f, v, w); break;
            default: slice(oneIn(8) ? anyInt() : 1 + below(10)); break;
        }
    }

    private void start(int f, int a, int b) {
        compare("start(" + f + ", " + a + ", " + b + ")", machine.start(f, a, b), model.start(f, a, b));
    }

    private void slice(int n) {
        compare("run(" + n + ")", machine.run(n), model.run(n));
    }

    private void emit(int f, int op, int operand) {
        compare("emit(" + f + ", " + op + ", " + operand + ")", machine.emit(f, op, operand), model.emit(f, op, operand));
    }

    private void compare(String call, int got, int want) {
        calls.add(call + " = " + got);
        SEEN.merge(call.replaceAll("\\(.*", "") + " " + want, 1, Integer::sum);
        CHECK.due(call, got, want);
        CHECK.unchanged(call + " in the model", machine, model.readings());
        if (CHECK.wrong() != 0) {
            System.out.println(String.join("\n", calls));
        }
    }

    /** Erases, feeds and seals a function that can mostly be sealed. */
    private void feedFunction(int f) {
        compare("erase(" + f + ")", machine.erase(f), model.erase(f));
        int length = 2 + below(codeLength - 1);
        int[] ops = new int[length];
        int[] heights = new int[length + 1];
        for (int i = 0; i < length; i++) {
            ops[i] = chooseOp(heights[i], length - i);
            heights[i + 1] = heights[i] + change(ops[i]);
        }
        for (int i = 0; i < length; i++) {
            emit(f, ops[i], chooseOperand(ops[i], heights, length));
        }
        if (!oneIn(12)) {
            compare("seal(" + f + ")", machine.seal(f), model.seal(f));
        }
    }

    private static int change(int op) {
        if (op == Op.PUSH || op == Op.LOAD || op == Op.GET || op == Op.CALL0) {
            return 1;
        }
        return op == Op.JUMP || op == Op.CALL1 ? 0 : -1;
    }

    /** An op that fits the height; near the end, one that leads to a last JUMP or RET. */
    private static int chooseOp(int height, int left) {
        if (left == 1) {
            return height == 1 ? Op.RET : Op.JUMP;
        }
        for (int tries = 0; tries < 200; tries++) {
            int op = below(17);
            boolean rare = op == Op.RET || op == Op.JUMP;
            if (fits(op, height) && height + change(op) <= left && !(rare && !oneIn(4))) {
                return op;
            }
        }
        return height == 0 ? Op.PUSH : Op.STORE;
    }

    private static boolean fits(int op, int height) {
        if (op == Op.JUMP || op == Op.JUMP_IF || op == Op.RET) {
            return height == (op == Op.JUMP ? 0 : 1);
        }
        if (change(op) == 1) {
            return height < 6;
        }
        boolean one = op == Op.STORE || op == Op.PUT || op == Op.CALL1 || op == Op.PRINT;
        return height >= (one ? 1 : 2);
    }

    private int chooseOperand(int op, int[] heights, int length) {
        if (op == Op.LOAD || op == Op.STORE) {
            return below(4);
        }
        if (op == Op.GET || op == Op.PUT) {
            return below(8);
        }
        if (op >= Op.CALL0 && op <= Op.CALL2) {
            return below(functions);
        }
        if (op != Op.JUMP && op != Op.JUMP_IF) {
            return anyInt();
        }
        int target = below(length);
        for (int tries = 0; tries < 40 && heights[target] != 0 && !oneIn(60); tries++) {
            target = below(length);
        }
        return heights[target] == 0 || oneIn(60) ? target : 0;
    }

    /** Guards the test itself: each call has met each answer that it can give. */
    private static void everyAnswerWasSeen() {
        String[] due = {"emit 0", "emit 1", "emit 2", "emit 3", "seal 0", "seal 1", "seal 4", "erase 0", "erase 1",
            "start 0", "start 1", "start 5", "abandon 0", "abandon 1", "setGlobal 0", "setGlobal 1", "optimise 0",
            "optimise 1", "optimise 5", "assume 0", "assume 1", "clearOutput 0", "clearOutput 16", "run 0", "run 5",
            "run 6", "run 7", "run 8", "run 9", "run 10"};
        for (String each : due) {
            if (CHECK.wrong() == 0 && SEEN.getOrDefault(each, 0) < 20) {
                CHECK.report("the runs hardly met: " + each);
            }
        }
    }
}
