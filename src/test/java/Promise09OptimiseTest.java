/** Promise 9: optimise. */
public final class Promise09OptimiseTest {
    private static final Check CHECK = new Check();

    public static void main(String[] args) {
        answers();
        changesNothing();
        sameRunWithAndWithout();
        CHECK.end();
    }

    private static void answers() {
        DeoptMachine machine = new DeoptMachine(4, 8, 2, 1);
        for (int f : new int[] {Integer.MIN_VALUE, -1, 4, 8, Integer.MAX_VALUE}) {
            CHECK.due("optimise(" + f + ")", machine.optimise(f), DeoptMachine.REFUSED);
        }
        CHECK.due("optimise of an empty one", machine.optimise(3), DeoptMachine.MISSING);
        Programs.feed(machine, 3, Op.PUSH, 1, Op.RET, 0);
        CHECK.due("optimise of an unsealed one", machine.optimise(3), DeoptMachine.MISSING);
        machine.seal(3);
        CHECK.due("optimise of a sealed one", machine.optimise(3), DeoptMachine.OK);
        CHECK.due("optimise again", machine.optimise(3), DeoptMachine.OK);
        machine.erase(3);
        CHECK.due("optimise of an erased one", machine.optimise(3), DeoptMachine.MISSING);
    }

    private static void changesNothing() {
        DeoptMachine machine = Programs.busy();
        int[] before = Readings.of(machine);
        for (int f = -1; f <= 8; f++) {
            machine.optimise(f);
        }
        CHECK.unchanged("optimise", machine, before);
    }

    private static void sameRunWithAndWithout() {
        DeoptMachine plain = Programs.busy();
        DeoptMachine hinted = Programs.busy();
        for (int slice = 1; slice <= 20; slice++) {
            hinted.optimise(slice % 4);
            if (slice % 5 == 0) {
                plain.clearOutput();
                hinted.clearOutput();
            }
            plain.setGlobal(6, slice / 2);
            hinted.setGlobal(6, slice / 2);
            CHECK.due("slice " + slice, hinted.run(slice), plain.run(slice));
            CHECK.unchanged("slice " + slice + " with hints", hinted, Readings.of(plain));
        }
    }
}
