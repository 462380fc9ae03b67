/**
 * A pausable bytecode machine. The promises named in the comments are those of DOC.md.
 *
 * The hints (heat, optimise, assume) may not alter any answer, and running fast is not promised, so
 * there is one interpreter and the hints leave no trace beyond the 'assumed' marks and failures.
 */
public final class DeoptMachine {
    public static final int REFUSED = 0;
    public static final int OK = 1;
    public static final int FULL = 2;
    public static final int HEIGHT = 3;
    public static final int INVALID = 4;
    public static final int MISSING = 5;
    public static final int PAUSED = 6;
    public static final int OUTPUT_FULL = 7;
    public static final int DIVIDE = 8;
    public static final int DEPTH = 9;
    public static final int FINISHED = 10;

    public static final int IDLE = 0;
    public static final int ACTIVE = 1;
    public static final int DONE = 2;

    private static final int OP_PUSH = 0;
    private static final int OP_LOAD = 1;
    private static final int OP_STORE = 2;
    private static final int OP_GET = 3;
    private static final int OP_PUT = 4;
    private static final int OP_ADD = 5;
    private static final int OP_SUB = 6;
    private static final int OP_MUL = 7;
    private static final int OP_DIV = 8;
    private static final int OP_LESS = 9;
    private static final int OP_JUMP = 10;
    private static final int OP_JUMP_IF = 11;
    private static final int OP_CALL0 = 12;
    private static final int OP_CALL1 = 13;
    private static final int OP_CALL2 = 14;
    private static final int OP_PRINT = 15;
    private static final int OP_RET = 16;

    private static final int MAX_FUNCTIONS = 8;
    private static final int MAX_CODE = 32;
    private static final int CODE_CELLS = 256;
    private static final int MAX_DEPTH = 8;
    private static final int GLOBALS = 8;
    private static final int LOCALS = 4;
    private static final int LOCAL_CELLS = 32;
    private static final int PENDING = 6;
    private static final int PENDING_CELLS = 48;
    private static final int OUTPUT_CELLS = 16;

    private static final int MAX_CREDIT = 64;
    private static final int MAX_STEPS = 20000;
    private static final int NO_STOP = 0;

    private final int functions;
    private final int codeLength;
    private final int depth;

    // Function f owns the MAX_CODE cells from f * MAX_CODE on in each of these three.
    private final int[] ops = new int[CODE_CELLS];
    private final int[] operands = new int[CODE_CELLS];
    private final int[] heightsAfter = new int[CODE_CELLS];
    private final int[] lengths = new int[MAX_FUNCTIONS];
    private final boolean[] sealedMarks = new boolean[MAX_FUNCTIONS];

    private final int[] globals = new int[GLOBALS];
    private final boolean[] assumedMarks = new boolean[GLOBALS];
    private int failures = 0;

    private final int[] outputs = new int[OUTPUT_CELLS];
    private int outputCount = 0;

    private int result = 0;
    private int state = IDLE;

    private final int[] frameFunctions = new int[MAX_DEPTH];
    private final int[] framePositions = new int[MAX_DEPTH];
    private final int[] pendingCounts = new int[MAX_DEPTH];
    private final int[] locals = new int[LOCAL_CELLS];
    private final int[] pending = new int[PENDING_CELLS];
    private int frameCount = 0;

    public DeoptMachine(int functions, int codeLength, int depth, int heat) {
        this.functions = clamp(functions, 2, MAX_FUNCTIONS);
        this.codeLength = clamp(codeLength, 8, MAX_CODE);
        this.depth = clamp(depth, 2, MAX_DEPTH);
        // heat is not kept: no answer may depend on it.
    }

    public int emit(int f, int op, int operand) {
        if (!isFunction(f) || sealedMarks[f]) {
            return REFUSED;
        }
        if (op < OP_PUSH || op > OP_RET || !operandFits(op, operand)) {
            return REFUSED;
        }
        int length = lengths[f];
        if (length >= codeLength) {
            return FULL;
        }
        int height = heightBefore(f, length);
        if (!heightFits(op, height)) {
            return HEIGHT;
        }
        int cell = f * MAX_CODE + length;
        ops[cell] = op;
        operands[cell] = ignoresOperand(op) ? 0 : operand;
        heightsAfter[cell] = height + heightChange(op);
        lengths[f] = length + 1;
        return OK;
    }

    public int seal(int f) {
        if (!isFunction(f) || sealedMarks[f]) {
            return REFUSED;
        }
        if (!endsInJumpOrReturn(f) || !jumpsAreSound(f)) {
            return INVALID;
        }
        sealedMarks[f] = true;
        return OK;
    }

    public int erase(int f) {
        if (!isFunction(f) || hasFrame(f)) {
            return REFUSED;
        }
        lengths[f] = 0;
        sealedMarks[f] = false;
        return OK;
    }

    public int code(int f, int part, int i) {
        if (!isFunction(f)) {
            return -1;
        }
        if (part == 2) {
            return lengths[f];
        }
        if (part == 3) {
            return sealedMarks[f] ? 1 : 0;
        }
        if (i < 0 || i >= lengths[f]) {
            return -1;
        }
        if (part == 0) {
            return ops[f * MAX_CODE + i];
        }
        if (part == 1) {
            return operands[f * MAX_CODE + i];
        }
        return -1;
    }

    public int start(int f, int a, int b) {
        if (!isFunction(f) || state == ACTIVE) {
            return REFUSED;
        }
        if (!sealedMarks[f]) {
            return MISSING;
        }
        addFrame(f, a, b);
        state = ACTIVE;
        return OK;
    }

    public int run(int n) {
        if (n < 1 || state != ACTIVE) {
            return REFUSED;
        }
        int credit = n > MAX_CREDIT ? MAX_CREDIT : n;
        for (int step = 0; step < MAX_STEPS; step++) {
            int top = frameCount - 1;
            int position = framePositions[top];
            int cell = frameFunctions[top] * MAX_CODE + position;
            int op = ops[cell];
            int operand = operands[cell];
            if (costsCredit(op, operand, position)) {
                if (credit == 0) {
                    return PAUSED;
                }
                credit--;
            }
            int stop = stopBefore(op, operand);
            if (stop != NO_STOP) {
                return stop;
            }
            execute(op, operand);
            if (state == DONE) {
                return FINISHED;
            }
        }
        // Never reached: a frame passes each of its MAX_CODE positions at most once, and only a spent
        // credit lets one begin anew, so a slice ends within (MAX_DEPTH + MAX_CREDIT) * MAX_CODE steps.
        return PAUSED;
    }

    public int abandon() {
        if (state != ACTIVE) {
            return REFUSED;
        }
        frameCount = 0;
        state = IDLE;
        return OK;
    }

    public int setGlobal(int g, int v) {
        if (!isGlobal(g)) {
            return REFUSED;
        }
        writeGlobal(g, v);
        return OK;
    }

    public int global(int g) {
        return isGlobal(g) ? globals[g] : 0;
    }

    public int optimise(int f) {
        if (!isFunction(f)) {
            return REFUSED;
        }
        return sealedMarks[f] ? OK : MISSING;
    }

    public int assume(int g) {
        if (!isGlobal(g)) {
            return REFUSED;
        }
        assumedMarks[g] = true;
        return OK;
    }

    public boolean assumed(int g) {
        return isGlobal(g) && assumedMarks[g];
    }

    public int status(int what) {
        switch (what) {
            case 0:
                return state;
            case 1:
                return result;
            case 2:
                return frameCount;
            case 3:
                return outputCount;
            case 4:
                return failures;
            default:
                return 0;
        }
    }

    public int frame(int d, int i) {
        if (d < 0 || d >= frameCount) {
            return 0;
        }
        if (i == 0) {
            return frameFunctions[d];
        }
        if (i == 1) {
            return framePositions[d];
        }
        if (i == 2) {
            return pendingCounts[d];
        }
        if (i >= 3 && i < 3 + LOCALS) {
            return locals[d * LOCALS + i - 3];
        }
        // The cells above the pending count may hold popped values, which are not to be seen.
        if (i >= 7 && i - 7 < pendingCounts[d]) {
            return pending[d * PENDING + i - 7];
        }
        return 0;
    }

    public int output(int i) {
        return i >= 0 && i < outputCount ? outputs[i] : 0;
    }

    public int clearOutput() {
        int count = outputCount;
        outputCount = 0;
        return count;
    }

    private static int clamp(int value, int least, int greatest) {
        if (value < least) {
            return least;
        }
        return value > greatest ? greatest : value;
    }

    private boolean isFunction(int f) {
        return f >= 0 && f < functions;
    }

    private static boolean isGlobal(int g) {
        return g >= 0 && g < GLOBALS;
    }

    private static boolean isCall(int op) {
        return op >= OP_CALL0 && op <= OP_CALL2;
    }

    private static boolean isJump(int op) {
        return op == OP_JUMP || op == OP_JUMP_IF;
    }

    private static boolean isArithmetic(int op) {
        return op >= OP_ADD && op <= OP_LESS;
    }

    private static boolean ignoresOperand(int op) {
        return isArithmetic(op) || op == OP_PRINT || op == OP_RET;
    }

    private boolean operandFits(int op, int operand) {
        if (op == OP_PUSH || ignoresOperand(op)) {
            return true;
        }
        return operand >= 0 && operand < operandLimit(op);
    }

    private int operandLimit(int op) {
        if (op == OP_LOAD || op == OP_STORE) {
            return LOCALS;
        }
        if (op == OP_GET || op == OP_PUT) {
            return GLOBALS;
        }
        return isJump(op) ? codeLength : functions;
    }

    private static boolean heightFits(int op, int height) {
        switch (op) {
            case OP_PUSH:
            case OP_LOAD:
            case OP_GET:
            case OP_CALL0:
                return height < PENDING;
            case OP_STORE:
            case OP_PUT:
            case OP_CALL1:
            case OP_PRINT:
                return height >= 1;
            case OP_JUMP:
                return height == 0;
            case OP_JUMP_IF:
            case OP_RET:
                return height == 1;
            default:
                return height >= 2;
        }
    }

    // The height after JUMP, JUMP_IF and RET is 0; as they need an exact height, a change tells it too.
    private static int heightChange(int op) {
        switch (op) {
            case OP_PUSH:
            case OP_LOAD:
            case OP_GET:
            case OP_CALL0:
                return 1;
            case OP_JUMP:
            case OP_CALL1:
                return 0;
            default:
                return -1;
        }
    }

    private int heightBefore(int f, int position) {
        return position == 0 ? 0 : heightsAfter[f * MAX_CODE + position - 1];
    }

    private boolean endsInJumpOrReturn(int f) {
        if (lengths[f] == 0) {
            return false;
        }
        int last = ops[f * MAX_CODE + lengths[f] - 1];
        return last == OP_JUMP || last == OP_RET;
    }

    private boolean jumpsAreSound(int f) {
        for (int i = 0; i < lengths[f]; i++) {
            int cell = f * MAX_CODE + i;
            if (isJump(ops[cell]) && !isTarget(f, operands[cell])) {
                return false;
            }
        }
        return true;
    }

    private boolean isTarget(int f, int position) {
        return position < lengths[f] && heightBefore(f, position) == 0;
    }

    private boolean hasFrame(int f) {
        for (int d = 0; d < frameCount; d++) {
            if (frameFunctions[d] == f) {
                return true;
            }
        }
        return false;
    }

    private void addFrame(int f, int a, int b) {
        int top = frameCount;
        frameFunctions[top] = f;
        framePositions[top] = 0;
        pendingCounts[top] = 0;
        locals[top * LOCALS] = a;
        locals[top * LOCALS + 1] = b;
        locals[top * LOCALS + 2] = 0;
        locals[top * LOCALS + 3] = 0;
        frameCount = top + 1;
    }

    private static boolean costsCredit(int op, int operand, int position) {
        return isCall(op) || isJump(op) && operand <= position;
    }

    private int stopBefore(int op, int operand) {
        if (isCall(op) && !sealedMarks[operand]) {
            return MISSING;
        }
        if (isCall(op) && frameCount >= depth) {
            return DEPTH;
        }
        if (op == OP_DIV && topPending() == 0) {
            return DIVIDE;
        }
        if (op == OP_PRINT && outputCount >= OUTPUT_CELLS) {
            return OUTPUT_FULL;
        }
        return NO_STOP;
    }

    // seal has made sure that every pop finds a value, every push a free cell, and every position an
    // instruction: the height in the code is the pending count of the frame. stopBefore sees to the rest.
    private void execute(int op, int operand) {
        int top = frameCount - 1;
        framePositions[top]++;
        switch (op) {
            case OP_PUSH:
            case OP_LOAD:
            case OP_GET:
                fetch(op, operand);
                break;
            case OP_STORE:
            case OP_PUT:
            case OP_PRINT:
                deliver(op, operand);
                break;
            case OP_JUMP:
            case OP_JUMP_IF:
                if (op == OP_JUMP || pop() != 0) {
                    framePositions[top] = operand;
                }
                break;
            case OP_CALL0:
            case OP_CALL1:
            case OP_CALL2:
                enterFunction(op, operand);
                break;
            case OP_RET:
                leaveFunction();
                break;
            default:
                calculate(op);
                break;
        }
    }

    // A DIV by 0 does not come here, for stopBefore stops it.
    private void calculate(int op) {
        int b = pop();
        int a = pop();
        if (op == OP_ADD) {
            push(a + b);
        } else if (op == OP_SUB) {
            push(a - b);
        } else if (op == OP_MUL) {
            push(a * b);
        } else if (op == OP_LESS) {
            push(a < b ? 1 : 0);
        } else if (b != 0) {
            push(a / b);
        }
    }

    private void enterFunction(int op, int f) {
        int b = op == OP_CALL2 ? pop() : 0;
        int a = op == OP_CALL0 ? 0 : pop();
        addFrame(f, a, b);
    }

    private void leaveFunction() {
        int value = pop();
        frameCount--;
        if (frameCount > 0) {
            push(value);
        } else {
            result = value;
            state = DONE;
        }
    }

    private void fetch(int op, int operand) {
        if (op == OP_PUSH) {
            push(operand);
        } else if (op == OP_LOAD) {
            int top = frameCount - 1;
            push(locals[top * LOCALS + operand]);
        } else {
            push(globals[operand]);
        }
    }

    private void deliver(int op, int operand) {
        int value = pop();
        if (op == OP_STORE) {
            int top = frameCount - 1;
            locals[top * LOCALS + operand] = value;
        } else if (op == OP_PUT) {
            writeGlobal(operand, value);
        } else {
            outputs[outputCount] = value;
            outputCount++;
        }
    }

    private int topPending() {
        int top = frameCount - 1;
        return pending[top * PENDING + pendingCounts[top] - 1];
    }

    private void push(int value) {
        int top = frameCount - 1;
        pending[top * PENDING + pendingCounts[top]] = value;
        pendingCounts[top]++;
    }

    private int pop() {
        int value = topPending();
        pendingCounts[frameCount - 1]--;
        return value;
    }

    private void writeGlobal(int g, int v) {
        if (assumedMarks[g] && globals[g] != v) {
            assumedMarks[g] = false;
            failures++;
        }
        globals[g] = v;
    }
}
