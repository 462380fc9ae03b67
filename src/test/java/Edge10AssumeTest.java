import java.io.IOException;

/** The edges of Promise 10: assume and assumed. */
public final class Edge10AssumeTest {
    public static void main(String[] args) throws IOException {
        Edges edges = new Edges(10);
        edges.holds("`REFUSED` if g is not in 0..7.", Edge10AssumeTest::noSuchGlobal);
        edges.holds("Else the mark 'assumed' of g becomes (or stays) true, and the answer is `OK`.",
                Edge10AssumeTest::everyGlobal);
        edges.holds("Else the mark 'assumed' of g becomes (or stays) true, and the answer is `OK`.",
                Edge10AssumeTest::staysTrue);
        edges.holds("The value of g, failures and everything else stay.", Edge10AssumeTest::everythingElseStays);
        edges.holds("It may be given in any state, also again after an assumption was broken.", Edge10AssumeTest::anyState);
        edges.holds("It may be given in any state, also again after an assumption was broken.",
                Edge10AssumeTest::againAfterABreak);
        edges.holds("The hint does not alter the meaning of a run; only the marks and failures depend on it, as said in "
                + "Promise 8.", Edge10AssumeTest::onlyMarksAndFailuresDepend);
        edges.holds("`assumed(g)` answers the mark 'assumed' of global g; false if g is not in 0..7.",
                Edge10AssumeTest::readNoSuchGlobal);
        edges.holds("Nothing changes.", Edge10AssumeTest::readingChangesNothing);
        edges.end();
    }

    private static void noSuchGlobal(Check check) {
        for (int state = DeoptMachine.IDLE; state <= DeoptMachine.DONE; state++) {
            DeoptMachine machine = Programs.inState(state);
            int[] before = Readings.of(machine);
            for (int g : Edges.outside(0, 7)) {
                check.due("assume(" + g + ")", machine.assume(g), DeoptMachine.REFUSED);
            }
            check.unchanged("assume of no global", machine, before);
        }
    }

    private static void everyGlobal(Check check) {
        DeoptMachine machine = new DeoptMachine(2, 8, 2, 1);
        for (int g = 0; g < 8; g++) {
            check.due("assume(" + g + ")", machine.assume(g), DeoptMachine.OK);
            for (int other = 0; other < 8; other++) {
                check.due("assumed(" + other + ") after " + g, machine.assumed(other), other <= g);
            }
        }
    }

    private static void staysTrue(Check check) {
        DeoptMachine machine = new DeoptMachine(2, 8, 2, 1);
        machine.assume(7);
        int[] before = Readings.of(machine);
        for (int again = 0; again < 3; again++) {
            check.due("assume(7) again", machine.assume(7), DeoptMachine.OK);
            check.unchanged("assume(7) again", machine, before);
        }
        machine.setGlobal(7, 1);
        check.due("failures, for it counts once", machine.status(4), 1);
    }

    private static void everythingElseStays(Check check) {
        for (int state = DeoptMachine.IDLE; state <= DeoptMachine.DONE; state++) {
            DeoptMachine machine = Programs.inState(state);
            int[] before = Readings.of(machine);
            machine.assume(6);
            check.changedOnly("assume in state " + state, machine, before, "assumed(6)");
            check.due("its value", machine.global(6), 8);
        }
    }

    private static void anyState(Check check) {
        check.due("assume at first", new DeoptMachine(2, 8, 2, 1).assume(0), DeoptMachine.OK);
        for (int state = DeoptMachine.IDLE; state <= DeoptMachine.DONE; state++) {
            DeoptMachine machine = Programs.inState(state);
            check.due("assume in state " + state, machine.assume(0), DeoptMachine.OK);
            check.due("mark in state " + state, machine.assumed(0), true);
        }
    }

    private static void againAfterABreak(Check check) {
        DeoptMachine machine = new DeoptMachine(2, 8, 2, 1);
        Programs.define(machine, 0, Op.LOAD, 0, Op.PUT, 4, Op.JUMP, 0);
        for (int round = 1; round <= 5; round++) {
            check.due("assume", machine.assume(4), DeoptMachine.OK);
            check.due("mark", machine.assumed(4), true);
            machine.setGlobal(4, round);
            check.due("broken mark", machine.assumed(4), false);
            check.due("failures", machine.status(4), 2 * round - 1);
            check.due("assume", machine.assume(4), DeoptMachine.OK);
            machine.start(0, -round, 0);
            machine.run(2);
            check.due("mark broken by PUT", machine.assumed(4), false);
            check.due("failures", machine.status(4), 2 * round);
            check.due("assume in the run", machine.assume(4), DeoptMachine.OK);
            machine.run(2);
            check.due("mark after an equal PUT", machine.assumed(4), true);
            machine.abandon();
        }
    }

    private static void onlyMarksAndFailuresDepend(Check check) {
        DeoptMachine plain = counting();
        DeoptMachine hinted = counting();
        for (int slice = 0; slice < 20; slice++) {
            for (int g = 0; g < 8; g++) {
                hinted.assume(g);
            }
            check.due("slice " + slice, hinted.run(1), plain.run(1));
            int[] with = Readings.of(hinted);
            int[] without = Readings.of(plain);
            for (int i = 0; i < with.length; i++) {
                String name = Readings.nameOf(i);
                if (!name.startsWith("assumed(") && !name.equals("status(4)")) {
                    check.due("slice " + slice + ": " + name, with[i], without[i]);
                }
            }
            check.due("failures with the hint", hinted.status(4), slice < 15 ? slice + 1 : 15);
            check.due("failures without it", plain.status(4), 0);
        }
    }

    /** Started: prints global 1 and adds 1 to it, until the output is full. */
    private static DeoptMachine counting() {
        DeoptMachine machine = new DeoptMachine(2, 16, 2, 1);
        Programs.define(machine, 0, Op.GET, 1, Op.PRINT, 0, Op.GET, 1, Op.PUSH, 1, Op.ADD, 0, Op.PUT, 1, Op.JUMP, 0);
        machine.start(0, 0, 0);
        return machine;
    }

    private static void readNoSuchGlobal(Check check) {
        DeoptMachine machine = new DeoptMachine(2, 8, 2, 1);
        for (int g = 0; g < 8; g++) {
            machine.assume(g);
        }
        for (int g : Edges.outside(0, 7)) {
            check.due("assumed(" + g + ")", machine.assumed(g), false);
        }
        check.due("assumed(0)", machine.assumed(0), true);
        check.due("assumed(7)", machine.assumed(7), true);
    }

    private static void readingChangesNothing(Check check) {
        for (int state = DeoptMachine.IDLE; state <= DeoptMachine.DONE; state++) {
            DeoptMachine machine = Programs.inState(state);
            int[] before = Readings.of(machine);
            for (int g = -2; g <= 9; g++) {
                machine.assumed(g);
            }
            check.unchanged("assumed in state " + state, machine, before);
        }
    }
}
