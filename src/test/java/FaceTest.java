import java.io.IOException;
import java.lang.reflect.Constructor;
import java.lang.reflect.Field;
import java.lang.reflect.Method;
import java.lang.reflect.Modifier;
import java.nio.file.Files;
import java.nio.file.Path;
import java.util.Arrays;
import java.util.TreeSet;
import java.util.regex.Matcher;
import java.util.regex.Pattern;
import java.util.stream.Collectors;

/** What the document says before its promises: the public constants and the public face. */
public final class FaceTest {
    private static final Check CHECK = new Check();
    private static final Path DOCUMENT = Path.of("../shared/DOC.md");

    public static void main(String[] args) throws IOException, ReflectiveOperationException {
        if (!Files.exists(DOCUMENT)) {
            System.out.println(DOCUMENT + " is not there: LanguageTest alone looks at the face");
            return;
        }
        String document = Files.readString(DOCUMENT);
        listedConstants(between(document, "Public constants", "## The public face"));
        face(between(document, "## The public face", "## Promise 1:"));
        CHECK.end();
    }

    private static void listedConstants(String text) throws ReflectiveOperationException {
        Matcher pair = Pattern.compile("`([A-Z_]+)` (\\d+)").matcher(text);
        int seen = 0;
        while (pair.find()) {
            seen++;
            int value = DeoptMachine.class.getField(pair.group(1)).getInt(null);
            CHECK.due(pair.group(1), value, Long.parseLong(pair.group(2)));
        }
        CHECK.due("constants in the list", seen, 14);
    }

    private static void face(String text) throws ReflectiveOperationException {
        TreeSet<String> want = new TreeSet<>();
        for (String line : text.split("\n")) {
            if (line.startsWith("    public ")) {
                want.add(withoutParameterNames(line.trim()));
            }
        }
        TreeSet<String> have = publicMembers();
        for (String each : want) {
            if (!have.contains(each)) {
                CHECK.report("missing in the class: " + each);
            }
        }
        CHECK.due("public members", have.size(), want.size());
    }

    private static TreeSet<String> publicMembers() throws ReflectiveOperationException {
        TreeSet<String> found = new TreeSet<>();
        for (Field each : DeoptMachine.class.getFields()) {
            found.add(Modifier.toString(each.getModifiers()) + " " + each.getType() + " " + each.getName() + " = "
                    + each.getInt(null) + ";");
        }
        for (Constructor<?> each : DeoptMachine.class.getConstructors()) {
            found.add("public DeoptMachine" + types(each.getParameterTypes()));
        }
        for (Method each : DeoptMachine.class.getDeclaredMethods()) {
            if (Modifier.isPublic(each.getModifiers())) {
                found.add(Modifier.toString(each.getModifiers()) + " " + each.getReturnType() + " " + each.getName()
                        + types(each.getParameterTypes()));
            }
        }
        return found;
    }

    private static String types(Class<?>[] types) {
        return Arrays.stream(types).map(Class::toString).collect(Collectors.joining(", ", "(", ")"));
    }

    private static String withoutParameterNames(String line) {
        return line.replaceAll("(int) \\w+(?=[,)])", "$1");
    }

    private static String between(String text, String from, String to) {
        int start = text.indexOf(from);
        int end = start < 0 ? -1 : text.indexOf(to, start);
        if (end < 0) {
            throw new IllegalStateException("the document has nothing between " + from + " and " + to);
        }
        return text.substring(start, end);
    }
}
