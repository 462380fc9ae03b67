/** The instructions of Promise 2 by name. */
final class Op {
    static final int PUSH = 0;
    static final int LOAD = 1;
    static final int STORE = 2;
    static final int GET = 3;
    static final int PUT = 4;
    static final int ADD = 5;
    static final int SUB = 6;
    static final int MUL = 7;
    static final int DIV = 8;
    static final int LESS = 9;
    static final int JUMP = 10;
    static final int JUMP_IF = 11;
    static final int CALL0 = 12;
    static final int CALL1 = 13;
    static final int CALL2 = 14;
    static final int PRINT = 15;
    static final int RET = 16;

    private Op() {
    }
}
