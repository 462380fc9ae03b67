/** Feeds whole functions to a machine. */
final class Programs {
    private Programs() {
    }

    /** Appends instructions, given as op, operand, op, operand, and so on; each must be taken. */
    static void feed(DeoptMachine machine, int f, int... code) {
        for (int i = 0; i < code.length; i += 2) {
            int answer = machine.emit(f, code[i], code[i + 1]);
            if (answer != DeoptMachine.OK) {
                throw new IllegalStateException("emit " + i / 2 + " of function " + f + " answered " + answer);
            }
        }
    }

    /** Feeds and seals a function. */
    static void define(DeoptMachine machine, int f, int... code) {
        feed(machine, f, code);
        int answer = machine.seal(f);
        if (answer != DeoptMachine.OK) {
            throw new IllegalStateException("seal(" + f + ") answered " + answer);
        }
    }

    /** What a function answers that carries out one arithmetic op on its two arguments. */
    static int calculate(int op, int a, int b) {
        DeoptMachine machine = new DeoptMachine(2, 8, 2, 1);
        define(machine, 0, Op.LOAD, 0, Op.LOAD, 1, op, 0, Op.RET, 0);
        machine.start(0, a, b);
        machine.run(1);
        return machine.status(1);
    }

    /**
     * A machine in an active run with something in every part of it: function 0 waits for function 1,
     * which is before a backward jump; function 2 is fed but not sealed; function 3 is sealed.
     */
    static DeoptMachine busy() {
        DeoptMachine machine = new DeoptMachine(4, 16, 4, 3);
        define(machine, 0, Op.PUSH, 100, Op.LOAD, 0, Op.LOAD, 1, Op.CALL2, 1, Op.ADD, 0, Op.RET, 0);
        define(machine, 1, Op.LOAD, 1, Op.PRINT, 0, Op.PUSH, 8, Op.PUT, 6, Op.LOAD, 0, Op.JUMP_IF, 0,
                Op.PUSH, 1, Op.RET, 0);
        feed(machine, 2, Op.PUSH, 5, Op.STORE, 2);
        define(machine, 3, Op.PUSH, 41, Op.RET, 0);
        machine.start(3, 0, 0);
        machine.run(1);
        machine.setGlobal(1, 11);
        machine.setGlobal(2, 22);
        machine.assume(1);
        machine.assume(2);
        machine.setGlobal(2, 23);
        machine.start(0, 7, 9);
        machine.run(2);
        return machine;
    }

    /** The machine of busy() in the given state, with the same functions, globals, marks and output. */
    static DeoptMachine inState(int state) {
        DeoptMachine machine = busy();
        if (state != DeoptMachine.ACTIVE) {
            machine.abandon();
        }
        if (state == DeoptMachine.DONE) {
            machine.start(3, 0, 0);
            machine.run(1);
        }
        return machine;
    }

    /** A machine whose run of function 0 has ended with the given code; the answer of the slice must be FINISHED. */
    static DeoptMachine finished(int a, int b, int... code) {
        DeoptMachine machine = new DeoptMachine(2, 32, 2, 1);
        define(machine, 0, code);
        machine.start(0, a, b);
        int answer = machine.run(64);
        if (answer != DeoptMachine.FINISHED) {
            throw new IllegalStateException("run(64) answered " + answer);
        }
        return machine;
    }
}
