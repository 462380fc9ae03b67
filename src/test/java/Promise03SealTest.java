/** Promise 3: seal. */
public final class Promise03SealTest {
    private static final Check CHECK = new Check();

    public static void main(String[] args) {
        wrongFunctions();
        sealedTwice();
        lastOp();
        jumpTargets();
        calledFunctionNeedNotBeSealed();
        erasedJumpsDoNotCount();
        onlyTheMarkChanges();
        CHECK.end();
    }

    private static void wrongFunctions() {
        for (int f : new int[] {Integer.MIN_VALUE, -1, 3, 8, Integer.MAX_VALUE}) {
            CHECK.due("seal(" + f + ")", new DeoptMachine(3, 16, 2, 1).seal(f), DeoptMachine.REFUSED);
        }
    }

    private static void sealedTwice() {
        DeoptMachine machine = new DeoptMachine(3, 16, 2, 1);
        Programs.define(machine, 2, Op.JUMP, 0);
        int[] before = Readings.of(machine);
        CHECK.due("seal again", machine.seal(2), DeoptMachine.REFUSED);
        CHECK.unchanged("seal again", machine, before);
    }

    private static void lastOp() {
        due("empty", DeoptMachine.INVALID);
        due("ends in RET", DeoptMachine.OK, Op.PUSH, 1, Op.RET, 0);
        due("ends in JUMP", DeoptMachine.OK, Op.JUMP, 0);
        due("ends in PUSH", DeoptMachine.INVALID, Op.PUSH, 1);
        due("ends in JUMP_IF", DeoptMachine.INVALID, Op.PUSH, 1, Op.JUMP_IF, 0);
        due("ends in PRINT", DeoptMachine.INVALID, Op.PUSH, 1, Op.PRINT, 0);
        due("ends in CALL0", DeoptMachine.INVALID, Op.CALL0, 0);
        due("ends in STORE after RET", DeoptMachine.INVALID, Op.PUSH, 1, Op.RET, 0, Op.PUSH, 1, Op.STORE, 0);
        due("ends in LESS", DeoptMachine.INVALID, Op.PUSH, 1, Op.PUSH, 1, Op.LESS, 0);
    }

    private static void jumpTargets() {
        due("JUMP to the last", DeoptMachine.OK, Op.JUMP, 1, Op.JUMP, 0);
        due("JUMP to the length", DeoptMachine.INVALID, Op.JUMP, 2, Op.JUMP, 0);
        due("JUMP past the length", DeoptMachine.INVALID, Op.JUMP, 15, Op.JUMP, 0);
        due("last JUMP to the length", DeoptMachine.INVALID, Op.JUMP, 1);
        due("JUMP_IF to the last", DeoptMachine.OK, Op.PUSH, 1, Op.JUMP_IF, 2, Op.JUMP, 0);
        due("JUMP_IF to the length", DeoptMachine.INVALID, Op.PUSH, 1, Op.JUMP_IF, 3, Op.JUMP, 0);
        due("JUMP to height 1", DeoptMachine.INVALID, Op.JUMP, 2, Op.PUSH, 1, Op.RET, 0);
        due("JUMP_IF to height 1", DeoptMachine.INVALID, Op.PUSH, 1, Op.JUMP_IF, 3, Op.PUSH, 1, Op.RET, 0);
        due("JUMP back to height 1", DeoptMachine.INVALID, Op.PUSH, 1, Op.STORE, 0, Op.JUMP, 1);
        due("JUMP_IF to itself", DeoptMachine.INVALID, Op.PUSH, 1, Op.JUMP_IF, 1, Op.JUMP, 0);
        due("JUMP after STORE", DeoptMachine.OK, Op.PUSH, 1, Op.STORE, 0, Op.JUMP, 2);
        due("JUMP to after RET", DeoptMachine.OK, Op.JUMP, 3, Op.PUSH, 1, Op.RET, 0, Op.PUSH, 2, Op.RET, 0);
        due("unreached JUMP to height 1", DeoptMachine.INVALID, Op.PUSH, 1, Op.RET, 0, Op.JUMP, 1);
        due("unreached JUMP_IF past the end", DeoptMachine.INVALID,
                Op.PUSH, 1, Op.RET, 0, Op.PUSH, 0, Op.JUMP_IF, 9, Op.JUMP, 0);
        due("unreached JUMP to height 0", DeoptMachine.OK, Op.PUSH, 1, Op.RET, 0, Op.JUMP, 2);
    }

    private static void calledFunctionNeedNotBeSealed() {
        due("calls an empty one", DeoptMachine.OK, Op.CALL0, 0, Op.RET, 0);
        due("calls itself", DeoptMachine.OK, Op.CALL0, 1, Op.RET, 0);
    }

    private static void erasedJumpsDoNotCount() {
        DeoptMachine machine = new DeoptMachine(3, 16, 2, 1);
        Programs.feed(machine, 1, Op.PUSH, 1, Op.STORE, 0, Op.JUMP, 15, Op.JUMP, 15);
        CHECK.due("seal with wrong jumps", machine.seal(1), DeoptMachine.INVALID);
        machine.erase(1);
        Programs.feed(machine, 1, Op.PUSH, 1, Op.RET, 0);
        CHECK.due("seal after erase", machine.seal(1), DeoptMachine.OK);
    }

    private static void onlyTheMarkChanges() {
        DeoptMachine machine = Programs.busy();
        Programs.feed(machine, 2, Op.JUMP, 2);
        int[] before = Readings.of(machine);
        CHECK.due("seal in an active run", machine.seal(2), DeoptMachine.OK);
        CHECK.changedOnly("seal in an active run", machine, before, "code(2, 3)");
    }

    private static void due(String what, int want, int... code) {
        DeoptMachine machine = new DeoptMachine(3, 16, 2, 1);
        Programs.feed(machine, 1, code);
        int[] before = Readings.of(machine);
        CHECK.due("seal, " + what, machine.seal(1), want);
        if (want == DeoptMachine.OK) {
            CHECK.changedOnly("seal, " + what, machine, before, "code(1, 3)");
        } else {
            CHECK.unchanged("seal, " + what, machine, before);
        }
    }
}
