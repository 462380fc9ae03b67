import java.util.ArrayList;
import java.util.List;

/** Everything that the getters tell of a machine, as one list, with a name for each place in it. */
final class Readings {
    private static final List<String> NAMES = names();

    private Readings() {
    }

    static String nameOf(int place) {
        return NAMES.get(place);
    }

    static int[] of(DeoptMachine machine) {
        int[] all = new int[NAMES.size()];
        int at = 0;
        for (int f = 0; f < 8; f++) {
            for (int i = 0; i < 32; i++) {
                all[at++] = machine.code(f, 0, i);
                all[at++] = machine.code(f, 1, i);
            }
            all[at++] = machine.code(f, 2, 0);
            all[at++] = machine.code(f, 3, 0);
        }
        for (int g = 0; g < 8; g++) {
            all[at++] = machine.global(g);
            all[at++] = machine.assumed(g) ? 1 : 0;
        }
        for (int what = 0; what < 5; what++) {
            all[at++] = machine.status(what);
        }
        for (int d = 0; d < 8; d++) {
            for (int i = 0; i <= 12; i++) {
                all[at++] = machine.frame(d, i);
            }
        }
        for (int i = 0; i < 16; i++) {
            all[at++] = machine.output(i);
        }
        return all;
    }

    private static List<String> names() {
        List<String> all = new ArrayList<>();
        for (int f = 0; f < 8; f++) {
            for (int i = 0; i < 32; i++) {
                all.add("code(" + f + ", 0, " + i + ")");
                all.add("code(" + f + ", 1, " + i + ")");
            }
            all.add("code(" + f + ", 2)");
            all.add("code(" + f + ", 3)");
        }
        for (int g = 0; g < 8; g++) {
            all.add("global(" + g + ")");
            all.add("assumed(" + g + ")");
        }
        for (int what = 0; what < 5; what++) {
            all.add("status(" + what + ")");
        }
        for (int d = 0; d < 8; d++) {
            for (int i = 0; i <= 12; i++) {
                all.add("frame(" + d + ", " + i + ")");
            }
        }
        for (int i = 0; i < 16; i++) {
            all.add("output(" + i + ")");
        }
        return all;
    }
}
