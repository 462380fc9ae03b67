import java.io.IOException;

/** The edges of Promise 6: start and abandon. */
public final class Edge06StartTest {
    private static final String ONE_FRAME = "Else there is one frame: function f, position 0, locals 0..3 being a, b, 0, 0, "
            + "nothing pending.";

    public static void main(String[] args) throws IOException {
        Edges edges = new Edges(6);
        edges.holds("`REFUSED` if f is not in 0..functions-1.", Edge06StartTest::noSuchFunction);
        edges.holds("`REFUSED` if the state is `ACTIVE`.", Edge06StartTest::whileActive);
        edges.holds("`MISSING` if f is not sealed; nothing changes.", Edge06StartTest::notSealed);
        edges.holds(ONE_FRAME, Edge06StartTest::greatestArguments);
        edges.holds(ONE_FRAME, Edge06StartTest::nothingOfAnEarlierRun);
        edges.holds("The state becomes `ACTIVE`, and the answer is `OK`.", Edge06StartTest::becomesActive);
        edges.holds("No instruction is executed.", Edge06StartTest::nothingExecuted);
        edges.holds("Output, globals, marks, failures and result stay.", Edge06StartTest::theRestStays);
        edges.holds("A run can be started from `IDLE` and from `DONE`.", Edge06StartTest::fromIdleAndDone);
        edges.holds("`abandon()` answers `REFUSED` if the state is not `ACTIVE`.", Edge06StartTest::abandonRefused);
        edges.holds("Else it drops all frames, the state becomes `IDLE`, and the answer is `OK`.",
                Edge06StartTest::abandonDropsAllFrames);
        edges.holds("Everything else stays, the result too.", Edge06StartTest::abandonLeavesTheRest);
        edges.end();
    }

    private static void noSuchFunction(Check check) {
        for (int state = DeoptMachine.IDLE; state <= DeoptMachine.DONE; state++) {
            DeoptMachine machine = Programs.inState(state);
            int[] before = Readings.of(machine);
            for (int f : Edges.outside(0, 3)) {
                check.due("start(" + f + ", 1, 2)", machine.start(f, 1, 2), DeoptMachine.REFUSED);
            }
            check.unchanged("start of no function", machine, before);
        }
        for (int f = 0; f < 8; f += 7) {
            DeoptMachine machine = new DeoptMachine(8, 8, 2, 1);
            Programs.define(machine, f, Op.JUMP, 0);
            check.due("start(" + f + ", 1, 2)", machine.start(f, 1, 2), DeoptMachine.OK);
            check.due("its function", machine.frame(0, 0), f);
        }
    }

    private static void whileActive(Check check) {
        DeoptMachine machine = Programs.busy();
        int[] before = Readings.of(machine);
        for (int f = 0; f < 4; f++) {
            check.due("start(" + f + ") while active", machine.start(f, 1, 2), DeoptMachine.REFUSED);
        }
        check.unchanged("start while active", machine, before);
    }

    private static void notSealed(Check check) {
        for (int state : new int[] {DeoptMachine.IDLE, DeoptMachine.DONE}) {
            DeoptMachine machine = Programs.inState(state);
            int[] before = Readings.of(machine);
            check.due("start of a fed one", machine.start(2, 1, 2), DeoptMachine.MISSING);
            check.unchanged("start of a fed one", machine, before);
            machine.erase(2);
            before = Readings.of(machine);
            check.due("start of an empty one", machine.start(2, 1, 2), DeoptMachine.MISSING);
            check.unchanged("start of an empty one", machine, before);
            machine.erase(3);
            before = Readings.of(machine);
            check.due("start of an erased one", machine.start(3, 1, 2), DeoptMachine.MISSING);
            check.unchanged("start of an erased one", machine, before);
        }
    }

    private static void greatestArguments(Check check) {
        int[] values = {Integer.MIN_VALUE, -1, 0, 1, Integer.MAX_VALUE};
        for (int a : values) {
            for (int b : values) {
                DeoptMachine machine = new DeoptMachine(2, 8, 2, 1);
                Programs.define(machine, 1, Op.JUMP, 0);
                machine.start(1, a, b);
                check.frameDue("start(1, " + a + ", " + b + ")", machine, 0, 1, 0, 0, a, b);
                check.due("frames", machine.status(2), 1);
            }
        }
    }

    /** The earlier run had written all locals of its frame and left six values pending. */
    private static void nothingOfAnEarlierRun(Check check) {
        DeoptMachine machine = new DeoptMachine(2, 32, 2, 1);
        Programs.define(machine, 0, Op.PUSH, 5, Op.STORE, 0, Op.PUSH, 6, Op.STORE, 1, Op.PUSH, 7, Op.STORE, 2, Op.PUSH, 8,
                Op.STORE, 3, Op.PUSH, 1, Op.PUSH, 2, Op.PUSH, 3, Op.PUSH, 4, Op.PUSH, 5, Op.PUSH, 6, Op.CALL1, 1, Op.ADD, 0,
                Op.ADD, 0, Op.ADD, 0, Op.ADD, 0, Op.ADD, 0, Op.RET, 0);
        machine.start(0, 1, 2);
        machine.run(1);
        check.frameDue("the earlier run", machine, 0, 0, 14, 6, 5, 6, 7, 8, 1, 2, 3, 4, 5, 6);
        machine.abandon();
        machine.start(0, 0, 0);
        check.frameDue("the new run", machine, 0, 0, 0, 0, 0, 0, 0, 0);
    }

    private static void becomesActive(Check check) {
        for (int state : new int[] {DeoptMachine.IDLE, DeoptMachine.DONE}) {
            DeoptMachine machine = Programs.inState(state);
            check.due("start from state " + state, machine.start(0, 0, 0), DeoptMachine.OK);
            check.due("state after start", machine.status(0), DeoptMachine.ACTIVE);
        }
    }

    private static void nothingExecuted(Check check) {
        DeoptMachine machine = new DeoptMachine(2, 8, 2, 1);
        Programs.define(machine, 0, Op.PUSH, 3, Op.PRINT, 0, Op.PUSH, 4, Op.PUT, 5, Op.PUSH, 6, Op.RET, 0);
        machine.start(0, 0, 0);
        check.due("cells", machine.status(3), 0);
        check.due("global(5)", machine.global(5), 0);
        check.due("state", machine.status(0), DeoptMachine.ACTIVE);
        check.due("position", machine.frame(0, 1), 0);
    }

    private static void theRestStays(Check check) {
        for (int state : new int[] {DeoptMachine.IDLE, DeoptMachine.DONE}) {
            DeoptMachine machine = Programs.inState(state);
            // The runs that led here began with start too, so what it must leave alone is written after them.
            for (int g = 0; g < 8; g++) {
                machine.assume(g);
                machine.setGlobal(g, 100 + g);
                machine.assume(g);
            }
            int[] before = Readings.of(machine);
            machine.start(1, 6, 7);
            check.changedOnly("start from state " + state, machine, before, "status(0)", "status(2)", "frame(0, 0)",
                    "frame(0, 3)", "frame(0, 4)");
        }
    }

    private static void fromIdleAndDone(Check check) {
        DeoptMachine machine = new DeoptMachine(2, 8, 2, 1);
        Programs.define(machine, 0, Op.LOAD, 0, Op.RET, 0);
        for (int round = 1; round <= 4; round++) {
            check.due("start " + round, machine.start(0, round, 0), DeoptMachine.OK);
            check.due("run " + round, machine.run(1), DeoptMachine.FINISHED);
            check.due("result " + round, machine.status(1), round);
        }
    }

    private static void abandonRefused(Check check) {
        DeoptMachine fresh = new DeoptMachine(2, 8, 2, 1);
        int[] before = Readings.of(fresh);
        check.due("abandon at first", fresh.abandon(), DeoptMachine.REFUSED);
        check.unchanged("abandon at first", fresh, before);
        for (int state : new int[] {DeoptMachine.IDLE, DeoptMachine.DONE}) {
            DeoptMachine machine = Programs.inState(state);
            before = Readings.of(machine);
            check.due("abandon in state " + state, machine.abandon(), DeoptMachine.REFUSED);
            check.unchanged("abandon in state " + state, machine, before);
        }
    }

    private static void abandonDropsAllFrames(Check check) {
        for (int frames = 1; frames <= 8; frames++) {
            DeoptMachine machine = new DeoptMachine(2, 8, 8, 1);
            Programs.define(machine, 0, Op.PUSH, 3, Op.CALL1, 0, Op.RET, 0);
            machine.start(0, 4, 5);
            if (frames > 1) {
                machine.run(frames - 1);
            }
            check.due("frames", machine.status(2), frames);
            check.due("abandon", machine.abandon(), DeoptMachine.OK);
            check.due("state", machine.status(0), DeoptMachine.IDLE);
            check.due("frames after abandon", machine.status(2), 0);
            for (int d = 0; d < 8; d++) {
                check.frameDue("after abandon", machine, d);
            }
            check.due("abandon again", machine.abandon(), DeoptMachine.REFUSED);
        }
    }

    private static void abandonLeavesTheRest(Check check) {
        DeoptMachine machine = Programs.busy();
        int[] before = Readings.of(machine);
        machine.abandon();
        int[] now = Readings.of(machine);
        for (int i = 0; i < now.length; i++) {
            String name = Readings.nameOf(i);
            if (!name.startsWith("frame(") && !name.equals("status(0)") && !name.equals("status(2)")) {
                check.due("abandon: " + name, now[i], before[i]);
            }
        }
        check.due("result", machine.status(1), 41);
    }
}
