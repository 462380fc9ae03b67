import java.util.ArrayDeque;
import java.util.ArrayList;
import java.util.Deque;
import java.util.List;

/**
 * The document's machine once more, written from its words with the Java library and apart from the
 * class under test, so that one mistake is not made in both. It knows no hints but the marks.
 */
final class PlainModel {
    private static final class Instruction {
        final int op;
        final int operand;
        final int before;
        final int after;

        Instruction(int op, int operand, int before, int after) {
            this.op = op;
            this.operand = operand;
            this.before = before;
            this.after = after;
        }
    }

    private static final class Function {
        final List<Instruction> code = new ArrayList<>();
        boolean closed = false;
    }

    private static final class Frame {
        final int function;
        int position = 0;
        final int[] locals;
        final ArrayList<Integer> pending = new ArrayList<>();

        Frame(int function, int a, int b) {
            this.function = function;
            this.locals = new int[] {a, b, 0, 0};
        }

        int pop() {
            return pending.remove(pending.size() - 1);
        }
    }

    private static final String WORDS = "PUSH LOAD STORE GET PUT ADD SUB MUL DIV LESS JUMP JUMP_IF CALL0 CALL1 CALL2 PRINT RET";
    private static final List<String> NAMES = List.of(WORDS.split(" "));

    private final int functions;
    private final int codeLength;
    private final int depth;
    private final List<Function> table = new ArrayList<>();
    private final int[] globals = new int[8];
    private final boolean[] marks = new boolean[8];
    private int failures = 0;
    private final List<Integer> printed = new ArrayList<>();
    private int result = 0;
    private int state = 0;
    private final List<Frame> frames = new ArrayList<>();

    PlainModel(int functions, int codeLength, int depth) {
        this.functions = Math.max(2, Math.min(8, functions));
        this.codeLength = Math.max(8, Math.min(32, codeLength));
        this.depth = Math.max(2, Math.min(8, depth));
        for (int f = 0; f < this.functions; f++) {
            table.add(new Function());
        }
    }

    private boolean within(int value, int limit) {
        return 0 <= value && value < limit;
    }

    int emit(int f, int op, int operand) {
        if (!within(f, functions) || table.get(f).closed || !within(op, 17)) {
            return 0;
        }
        String name = NAMES.get(op);
        boolean ignored = List.of("ADD", "SUB", "MUL", "DIV", "LESS", "PRINT", "RET").contains(name);
        if (!ignored && !name.equals("PUSH") && !within(operand, limitOf(name))) {
            return 0;
        }
        List<Instruction> code = table.get(f).code;
        if (code.size() == codeLength) {
            return 2;
        }
        int h = code.isEmpty() ? 0 : code.get(code.size() - 1).after;
        int after = after(name, h);
        if (after < 0) {
            return 3;
        }
        code.add(new Instruction(op, ignored ? 0 : operand, h, after));
        return 1;
    }

    private int limitOf(String name) {
        if (name.equals("LOAD") || name.equals("STORE")) {
            return 4;
        }
        if (name.equals("GET") || name.equals("PUT")) {
            return 8;
        }
        return name.startsWith("JUMP") ? codeLength : functions;
    }

    /** The height after the instruction, -1 if its need does not hold. */
    private int after(String name, int h) {
        switch (name) {
            case "PUSH": case "LOAD": case "GET": case "CALL0":
                return h < 6 ? h + 1 : -1;
            case "STORE": case "PUT": case "PRINT":
                return h >= 1 ? h - 1 : -1;
            case "CALL1":
                return h >= 1 ? h : -1;
            case "JUMP":
                return h == 0 ? 0 : -1;
            case "JUMP_IF": case "RET":
                return h == 1 ? 0 : -1;
            default:
                return h >= 2 ? h - 1 : -1;
        }
    }

    int seal(int f) {
        if (!within(f, functions) || table.get(f).closed) {
            return 0;
        }
        List<Instruction> code = table.get(f).code;
        if (code.isEmpty()) {
            return 4;
        }
        String last = NAMES.get(code.get(code.size() - 1).op);
        if (!last.equals("JUMP") && !last.equals("RET")) {
            return 4;
        }
        for (Instruction each : code) {
            boolean jump = NAMES.get(each.op).startsWith("JUMP");
            if (jump && (each.operand >= code.size() || code.get(each.operand).before != 0)) {
                return 4;
            }
        }
        table.get(f).closed = true;
        return 1;
    }

    int erase(int f) {
        if (!within(f, functions) || frames.stream().anyMatch(each -> each.function == f)) {
            return 0;
        }
        table.set(f, new Function());
        return 1;
    }

    int code(int f, int part, int i) {
        if (!within(f, functions) || !within(part, 4)) {
            return -1;
        }
        Function function = table.get(f);
        if (part == 2) {
            return function.code.size();
        }
        if (part == 3) {
            return function.closed ? 1 : 0;
        }
        if (!within(i, function.code.size())) {
            return -1;
        }
        return part == 0 ? function.code.get(i).op : function.code.get(i).operand;
    }

    int start(int f, int a, int b) {
        if (!within(f, functions) || state == 1) {
            return 0;
        }
        if (!table.get(f).closed) {
            return 5;
        }
        frames.add(new Frame(f, a, b));
        state = 1;
        return 1;
    }

    int abandon() {
        if (state != 1) {
            return 0;
        }
        frames.clear();
        state = 0;
        return 1;
    }

    int run(int n) {
        if (n < 1 || state != 1) {
            return 0;
        }
        int credit = Math.min(n, 64);
        while (true) {
            Frame top = frames.get(frames.size() - 1);
            Instruction next = table.get(top.function).code.get(top.position);
            String name = NAMES.get(next.op);
            boolean call = name.startsWith("CALL");
            if (call || name.startsWith("JUMP") && next.operand <= top.position) {
                if (credit == 0) {
                    return 6;
                }
                credit--;
            }
            if (call && !table.get(next.operand).closed) {
                return 5;
            }
            if (call && frames.size() == depth) {
                return 9;
            }
            if (name.equals("DIV") && top.pending.get(top.pending.size() - 1) == 0) {
                return 8;
            }
            if (name.equals("PRINT") && printed.size() == 16) {
                return 7;
            }
            execute(top, name, next.operand);
            if (frames.isEmpty()) {
                state = 2;
                return 10;
            }
        }
    }

    private void execute(Frame top, String name, int operand) {
        top.position++;
        switch (name) {
            case "PUSH": top.pending.add(operand); break;
            case "LOAD": top.pending.add(top.locals[operand]); break;
            case "GET": top.pending.add(globals[operand]); break;
            case "STORE": top.locals[operand] = top.pop(); break;
            case "PUT": setGlobal(operand, top.pop()); break;
            case "PRINT": printed.add(top.pop()); break;
            case "JUMP": top.position = operand; break;
            case "JUMP_IF": if (top.pop() != 0) top.position = operand; break;
            case "CALL0": case "CALL1": case "CALL2": call(top, name.charAt(4) - '0', operand); break;
            case "RET": ret(top); break;
            default: calculate(top, name);
        }
    }

    private void calculate(Frame top, String name) {
        long b = top.pop();
        long a = top.pop();
        long value;
        switch (name) {
            case "ADD": value = a + b; break;
            case "SUB": value = a - b; break;
            case "MUL": value = a * b; break;
            case "DIV": value = a / b; break;
            default: value = a < b ? 1 : 0;
        }
        top.pending.add((int) value);
    }

    private void call(Frame caller, int arguments, int f) {
        Deque<Integer> given = new ArrayDeque<>();
        for (int i = 0; i < arguments; i++) {
            given.push(caller.pop());
        }
        int a = given.isEmpty() ? 0 : given.pop();
        int b = given.isEmpty() ? 0 : given.pop();
        frames.add(new Frame(f, a, b));
    }

    private void ret(Frame top) {
        int value = top.pop();
        frames.remove(frames.size() - 1);
        if (frames.isEmpty()) {
            result = value;
        } else {
            frames.get(frames.size() - 1).pending.add(value);
        }
    }

    int setGlobal(int g, int v) {
        if (!within(g, 8)) {
            return 0;
        }
        if (marks[g] && globals[g] != v) {
            marks[g] = false;
            failures++;
        }
        globals[g] = v;
        return 1;
    }

    int optimise(int f) {
        if (!within(f, functions)) {
            return 0;
        }
        return table.get(f).closed ? 1 : 5;
    }

    int assume(int g) {
        if (!within(g, 8)) {
            return 0;
        }
        marks[g] = true;
        return 1;
    }

    int clearOutput() {
        int count = printed.size();
        printed.clear();
        return count;
    }

    private int frame(int d, int i) {
        if (!within(d, frames.size())) {
            return 0;
        }
        Frame frame = frames.get(d);
        int[] all = new int[13];
        all[0] = frame.function;
        all[1] = frame.position;
        all[2] = frame.pending.size();
        System.arraycopy(frame.locals, 0, all, 3, 4);
        for (int k = 0; k < frame.pending.size(); k++) {
            all[7 + k] = frame.pending.get(k);
        }
        return all[i];
    }

    /** What Readings.of a machine in this state is. */
    int[] readings() {
        List<Integer> all = new ArrayList<>();
        for (int f = 0; f < 8; f++) {
            for (int i = 0; i < 32; i++) {
                all.add(code(f, 0, i));
                all.add(code(f, 1, i));
            }
            all.add(code(f, 2, 0));
            all.add(code(f, 3, 0));
        }
        for (int g = 0; g < 8; g++) {
            all.add(globals[g]);
            all.add(marks[g] ? 1 : 0);
        }
        all.addAll(List.of(state, result, frames.size(), printed.size(), failures));
        for (int d = 0; d < 8; d++) {
            for (int i = 0; i < 13; i++) {
                all.add(frame(d, i));
            }
        }
        for (int i = 0; i < 16; i++) {
            all.add(i < printed.size() ? printed.get(i) : 0);
        }
        return all.stream().mapToInt(Integer::intValue).toArray();
    }
}
