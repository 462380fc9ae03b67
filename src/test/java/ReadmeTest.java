import java.io.IOException;
import java.lang.reflect.Method;
import java.lang.reflect.Modifier;
import java.nio.file.Files;
import java.nio.file.Path;
import java.util.Arrays;
import java.util.regex.Matcher;
import java.util.regex.Pattern;

/** What README.md says: each call of its examples answers what stands behind it, and its tables are true. */
public final class ReadmeTest {
    private static final Check CHECK = new Check();
    private static final Path README = Path.of("README.md");
    private static final Path DOCUMENT = Path.of("../shared/DOC.md");

    private static final Pattern MADE = Pattern.compile("DeoptMachine machine = new DeoptMachine\\(([^()]*)\\);");
    private static final Pattern CALL = Pattern.compile("machine\\.(\\w+)\\(([^()]*)\\); +// (-?\\w+).*");
    private static final Pattern ROW = Pattern.compile("(?m)^\\| `(\\w+)\\(([^()]*)\\)` \\|.*\\| (.*) \\|$");
    private static final Pattern WORD = Pattern.compile("`([A-Z_]+)`");

    public static void main(String[] args) throws IOException, ReflectiveOperationException {
        String readme = Files.readString(README);
        examples(readme);
        calls(readme);
        instructions(readme);
        CHECK.end();
    }

    private static void examples(String readme) throws ReflectiveOperationException {
        Matcher block = Pattern.compile("(?s)```java\\n(.*?)```").matcher(readme);
        int seen = 0;
        while (block.find()) {
            seen++;
            example(block.group(1));
        }
        CHECK.due("examples in the README", seen, 2);
    }

    private static void example(String block) throws ReflectiveOperationException {
        DeoptMachine machine = null;
        for (String line : block.split("\n")) {
            Matcher made = MADE.matcher(line);
            Matcher call = CALL.matcher(line);
            if (made.matches()) {
                int[] given = numbers(made.group(1));
                machine = new DeoptMachine(given[0], given[1], given[2], given[3]);
            } else if (call.matches() && machine != null) {
                CHECK.due(line, answer(machine, call.group(1), numbers(call.group(2))), due(call.group(3)));
            } else {
                CHECK.report("not understood: " + line);
            }
        }
    }

    private static long answer(DeoptMachine machine, String name, int[] given) throws ReflectiveOperationException {
        Class<?>[] types = new Class<?>[given.length];
        Arrays.fill(types, int.class);
        Object answer = DeoptMachine.class.getMethod(name, types).invoke(machine, Arrays.stream(given).boxed().toArray());
        if (answer instanceof Boolean) {
            return (Boolean) answer ? 1 : 0;
        }
        return (Integer) answer;
    }

    /** The number that a word of the README stands for; a boolean counts 1 or 0. */
    private static long due(String word) throws ReflectiveOperationException {
        if (word.equals("true") || word.equals("false")) {
            return word.equals("true") ? 1 : 0;
        }
        return word.matches("-?\\d+") ? Long.parseLong(word) : DeoptMachine.class.getField(word).getInt(null);
    }

    private static int[] numbers(String list) {
        return list.isEmpty() ? new int[0] : Arrays.stream(list.split(", ")).mapToInt(Integer::parseInt).toArray();
    }

    /** Every public method has its row, with as many arguments as it takes, and every word there is a constant. */
    private static void calls(String readme) throws ReflectiveOperationException {
        Matcher row = ROW.matcher(readme);
        int rows = 0;
        while (row.find()) {
            rows++;
            String list = row.group(2);
            Class<?>[] types = new Class<?>[list.isEmpty() ? 0 : list.split(", ").length];
            Arrays.fill(types, int.class);
            DeoptMachine.class.getMethod(row.group(1), types);
            Matcher word = WORD.matcher(row.group(3));
            while (word.find()) {
                DeoptMachine.class.getField(word.group(1));
            }
        }
        int methods = 0;
        for (Method each : DeoptMachine.class.getDeclaredMethods()) {
            if (Modifier.isPublic(each.getModifiers())) {
                methods++;
                if (!readme.contains("| `" + each.getName() + "(")) {
                    CHECK.report("the README has no row for " + each.getName());
                }
            }
        }
        CHECK.due("rows of calls in the README", rows, methods);
    }

    /** The rows of the instructions are those of the document. */
    private static void instructions(String readme) throws IOException {
        // Where the document is not at hand, the rows cannot be looked up.
        String document = Files.exists(DOCUMENT) ? Files.readString(DOCUMENT) : readme;
        Matcher row = Pattern.compile("(?m)^\\| \\d+ \\|.*$").matcher(readme);
        int rows = 0;
        while (row.find()) {
            rows++;
            if (!document.contains(row.group() + "\n")) {
                CHECK.report("not in the document: " + row.group());
            }
        }
        CHECK.due("rows of instructions in the README", rows, 17);
    }
}
