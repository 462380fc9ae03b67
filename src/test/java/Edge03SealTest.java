import java.io.IOException;
import java.util.Arrays;

/** The edges of Promise 3: seal. */
public final class Edge03SealTest {
    private static final String INVALID = "`INVALID` if f is empty; or its last op is neither JUMP nor RET; or some JUMP or "
            + "JUMP_IF in it has a target not less than the length of f, or a target whose height before it (the h of that "
            + "position) is not 0.";

    public static void main(String[] args) throws IOException {
        Edges edges = new Edges(3);
        edges.holds("`REFUSED` if f is not in 0..functions-1 or f is already sealed.", Edge03SealTest::noSuchFunction);
        edges.holds("`REFUSED` if f is not in 0..functions-1 or f is already sealed.", Edge03SealTest::alreadySealed);
        edges.holds(INVALID, Edge03SealTest::empty);
        edges.holds(INVALID, Edge03SealTest::lastOp);
        edges.holds(INVALID, Edge03SealTest::targetPastTheEnd);
        edges.holds(INVALID, Edge03SealTest::targetAtAHeight);
        edges.holds("Else f becomes sealed, and the answer is `OK`.", Edge03SealTest::shortestAndLongest);
        edges.holds("Nothing else changes.", Edge03SealTest::nothingElseChanges);
        edges.holds("The functions that f calls need not be sealed.", Edge03SealTest::callsOfUnsealed);
        edges.holds("All jumps in the list count, whether or not control can reach them.", Edge03SealTest::unreachedJumps);
        edges.end();
    }

    private static void noSuchFunction(Check check) {
        for (int state = DeoptMachine.IDLE; state <= DeoptMachine.DONE; state++) {
            DeoptMachine machine = Programs.inState(state);
            int[] before = Readings.of(machine);
            for (int f : Edges.outside(0, 3)) {
                check.due("seal(" + f + ")", machine.seal(f), DeoptMachine.REFUSED);
            }
            check.unchanged("seal of no function", machine, before);
        }
        DeoptMachine machine = new DeoptMachine(8, 8, 2, 1);
        for (int f = 0; f < 8; f += 7) {
            Programs.feed(machine, f, Op.JUMP, 0);
            check.due("seal(" + f + ")", machine.seal(f), DeoptMachine.OK);
        }
    }

    private static void alreadySealed(Check check) {
        for (int state = DeoptMachine.IDLE; state <= DeoptMachine.DONE; state++) {
            DeoptMachine machine = Programs.inState(state);
            int[] before = Readings.of(machine);
            for (int f : new int[] {0, 1, 3}) {
                check.due("seal(" + f + ") again", machine.seal(f), DeoptMachine.REFUSED);
            }
            check.unchanged("seal again", machine, before);
        }
    }

    private static void empty(Check check) {
        due(check, "never fed", DeoptMachine.INVALID);
        DeoptMachine machine = new DeoptMachine(2, 8, 2, 1);
        Programs.define(machine, 1, Op.JUMP, 0);
        machine.erase(1);
        check.due("seal of an erased one", machine.seal(1), DeoptMachine.INVALID);
        for (int f = 0; f < 8; f++) {
            DeoptMachine others = allButOneFull(f);
            int[] before = Readings.of(others);
            check.due("seal of an empty " + f + " among full ones", others.seal(f), DeoptMachine.INVALID);
            check.unchanged("seal of an empty " + f + " among full ones", others, before);
        }
    }

    /** Every function but one is as long as can be and ends in JUMP, so that the empty one is not taken for its neighbour. */
    private static DeoptMachine allButOneFull(int empty) {
        DeoptMachine machine = new DeoptMachine(8, 32, 2, 1);
        for (int i = 0; i < 8 * 32; i++) {
            if (i / 32 != empty) {
                Programs.feed(machine, i / 32, Op.JUMP, 0);
            }
        }
        return machine;
    }

    private static void lastOp(Check check) {
        int[] two = {Op.PUSH, 1, Op.PUSH, 1};
        for (int op = 0; op <= 16; op++) {
            boolean jumpOrReturn = op == Op.JUMP || op == Op.RET;
            int height = op == Op.JUMP ? 0 : op == Op.JUMP_IF || op == Op.RET ? 1 : 2;
            DeoptMachine machine = new DeoptMachine(3, 16, 2, 1);
            Programs.feed(machine, 1, Arrays.copyOf(two, 2 * height));
            Programs.feed(machine, 1, op, 0);
            int[] before = Readings.of(machine);
            check.due("last op " + op, machine.seal(1), jumpOrReturn ? DeoptMachine.OK : DeoptMachine.INVALID);
            if (!jumpOrReturn) {
                check.unchanged("last op " + op, machine, before);
            }
        }
        due(check, "a RET that is not last", DeoptMachine.INVALID, Op.PUSH, 1, Op.RET, 0, Op.PUSH, 1);
    }

    private static void targetPastTheEnd(Check check) {
        due(check, "JUMP to the last", DeoptMachine.OK, Op.JUMP, 1, Op.JUMP, 0);
        due(check, "JUMP to the length", DeoptMachine.INVALID, Op.JUMP, 2, Op.JUMP, 0);
        due(check, "JUMP past the length", DeoptMachine.INVALID, Op.JUMP, 3, Op.JUMP, 0);
        due(check, "JUMP to codeLength - 1", DeoptMachine.INVALID, Op.JUMP, 15, Op.JUMP, 0);
        due(check, "last JUMP to itself", DeoptMachine.OK, Op.JUMP, 0);
        due(check, "last JUMP to the length", DeoptMachine.INVALID, Op.JUMP, 1);
        due(check, "JUMP_IF to the last", DeoptMachine.OK, Op.PUSH, 1, Op.JUMP_IF, 2, Op.JUMP, 0);
        due(check, "JUMP_IF to the length", DeoptMachine.INVALID, Op.PUSH, 1, Op.JUMP_IF, 3, Op.JUMP, 0);
        due(check, "JUMP_IF to codeLength - 1", DeoptMachine.INVALID, Op.PUSH, 1, Op.JUMP_IF, 15, Op.JUMP, 0);
    }

    private static void targetAtAHeight(Check check) {
        due(check, "JUMP to height 1", DeoptMachine.INVALID, Op.JUMP, 2, Op.PUSH, 1, Op.RET, 0);
        due(check, "JUMP to height 0", DeoptMachine.OK, Op.JUMP, 1, Op.PUSH, 1, Op.RET, 0);
        due(check, "JUMP back to height 1", DeoptMachine.INVALID, Op.PUSH, 1, Op.STORE, 0, Op.JUMP, 1);
        due(check, "JUMP back to height 0", DeoptMachine.OK, Op.PUSH, 1, Op.STORE, 0, Op.JUMP, 2);
        due(check, "JUMP_IF to height 1", DeoptMachine.INVALID, Op.PUSH, 1, Op.JUMP_IF, 3, Op.PUSH, 1, Op.RET, 0);
        due(check, "JUMP_IF to height 0", DeoptMachine.OK, Op.PUSH, 1, Op.JUMP_IF, 2, Op.PUSH, 1, Op.RET, 0);
        due(check, "JUMP_IF to itself", DeoptMachine.INVALID, Op.PUSH, 1, Op.JUMP_IF, 1, Op.JUMP, 0);
        due(check, "JUMP to height 6", DeoptMachine.INVALID, Op.PUSH, 1, Op.PUSH, 1, Op.PUSH, 1, Op.PUSH, 1, Op.PUSH, 1,
                Op.PUSH, 1, Op.STORE, 0, Op.STORE, 0, Op.STORE, 0, Op.STORE, 0, Op.STORE, 0, Op.STORE, 0, Op.JUMP, 6);
        due(check, "JUMP to after RET", DeoptMachine.OK, Op.JUMP, 3, Op.PUSH, 1, Op.RET, 0, Op.PUSH, 2, Op.RET, 0);
        due(check, "only the second jump wrong", DeoptMachine.INVALID, Op.JUMP, 1, Op.JUMP, 3, Op.PUSH, 1, Op.RET, 0);
        due(check, "only the first jump wrong", DeoptMachine.INVALID, Op.JUMP, 3, Op.JUMP, 2, Op.PUSH, 1, Op.RET, 0);
    }

    private static void shortestAndLongest(Check check) {
        due(check, "one instruction", DeoptMachine.OK, Op.JUMP, 0);
        DeoptMachine machine = new DeoptMachine(8, 32, 2, 1);
        for (int i = 0; i < 31; i++) {
            Programs.feed(machine, 7, Op.JUMP, 31);
        }
        Programs.feed(machine, 7, Op.JUMP, 0);
        check.due("32 instructions", machine.seal(7), DeoptMachine.OK);
        check.due("mark", machine.code(7, 3, 0), 1);
    }

    private static void nothingElseChanges(Check check) {
        for (int state = DeoptMachine.IDLE; state <= DeoptMachine.DONE; state++) {
            DeoptMachine machine = Programs.inState(state);
            Programs.feed(machine, 2, Op.JUMP, 2);
            int[] before = Readings.of(machine);
            check.due("seal in state " + state, machine.seal(2), DeoptMachine.OK);
            check.changedOnly("seal in state " + state, machine, before, "code(2, 3)");
        }
    }

    private static void callsOfUnsealed(Check check) {
        due(check, "calls an empty one", DeoptMachine.OK, Op.CALL0, 0, Op.RET, 0);
        due(check, "calls itself", DeoptMachine.OK, Op.CALL0, 1, Op.RET, 0);
        due(check, "calls with one", DeoptMachine.OK, Op.PUSH, 1, Op.CALL1, 2, Op.RET, 0);
        due(check, "calls with two", DeoptMachine.OK, Op.PUSH, 1, Op.PUSH, 1, Op.CALL2, 2, Op.RET, 0);
    }

    private static void unreachedJumps(Check check) {
        due(check, "JUMP to height 1 after RET", DeoptMachine.INVALID, Op.PUSH, 1, Op.RET, 0, Op.JUMP, 1);
        due(check, "JUMP past the end after RET", DeoptMachine.INVALID, Op.PUSH, 1, Op.RET, 0, Op.JUMP, 3);
        due(check, "JUMP_IF past the end after JUMP", DeoptMachine.INVALID, Op.JUMP, 0, Op.PUSH, 0, Op.JUMP_IF, 9,
                Op.JUMP, 0);
        due(check, "JUMP_IF to height 1 after JUMP", DeoptMachine.INVALID, Op.JUMP, 0, Op.PUSH, 0, Op.JUMP_IF, 2,
                Op.JUMP, 0);
        due(check, "sound ones after RET", DeoptMachine.OK, Op.PUSH, 1, Op.RET, 0, Op.JUMP, 2);
    }

    private static void due(Check check, String what, int want, int... code) {
        DeoptMachine machine = new DeoptMachine(3, 16, 2, 1);
        Programs.feed(machine, 1, code);
        int[] before = Readings.of(machine);
        check.due("seal, " + what, machine.seal(1), want);
        if (want == DeoptMachine.OK) {
            check.changedOnly("seal, " + what, machine, before, "code(1, 3)");
        } else {
            check.unchanged("seal, " + what, machine, before);
        }
    }
}
