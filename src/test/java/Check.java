import java.util.Arrays;

/** Compares answers with those that are due, prints each that differs, and ends the test. */
final class Check {
    static final int MOST_PRINTED = 40;

    private int wrong = 0;

    int wrong() {
        return wrong;
    }

    void due(String what, long got, long want) {
        if (got != want) {
            report(what + " answered " + got + ", due is " + want);
        }
    }

    void due(String what, boolean got, boolean want) {
        if (got != want) {
            report(what + " answered " + got + ", due is " + want);
        }
    }

    /** Every readable value of the machine is what it was. */
    void unchanged(String what, DeoptMachine machine, int[] before) {
        int[] now = Readings.of(machine);
        int place = Arrays.mismatch(before, now);
        if (place >= 0) {
            report(what + " changed " + Readings.nameOf(place) + " from " + before[place] + " to " + now[place]);
        }
    }

    /** Only the named readings have changed, and each has. */
    void changedOnly(String what, DeoptMachine machine, int[] before, String... names) {
        int[] now = Readings.of(machine);
        for (int i = 0; i < now.length; i++) {
            boolean may = Arrays.asList(names).contains(Readings.nameOf(i));
            if (may != (now[i] != before[i])) {
                report(what + ": " + Readings.nameOf(i) + " was " + before[i] + " and is " + now[i]);
            }
        }
    }

    /** The reading of frame d from i = 0 on. */
    void frameDue(String what, DeoptMachine machine, int d, int... want) {
        for (int i = 0; i < want.length; i++) {
            due(what + " frame(" + d + ", " + i + ")", machine.frame(d, i), want[i]);
        }
        for (int i = want.length; i <= 14; i++) {
            due(what + " frame(" + d + ", " + i + ")", machine.frame(d, i), 0);
        }
    }

    void report(String line) {
        wrong++;
        if (wrong <= MOST_PRINTED) {
            System.out.println(line);
        }
    }

    void end() {
        if (wrong != 0) {
            System.out.println(wrong + " answers are not as due");
            System.exit(1);
        }
    }
}
