import java.io.IOException;
import java.lang.reflect.Constructor;
import java.lang.reflect.Field;
import java.lang.reflect.Method;
import java.lang.reflect.Modifier;
import java.nio.file.Files;
import java.nio.file.Path;
import java.util.ArrayList;
import java.util.Arrays;
import java.util.LinkedHashMap;
import java.util.List;
import java.util.Map;
import java.util.TreeSet;
import java.util.regex.Matcher;
import java.util.regex.Pattern;

/** The rules of LANGUAGE.md that can be read off the class and its source. Runs in the project's folder. */
public final class LanguageTest {
    private static final Check CHECK = new Check();
    private static final Path SOURCE = Path.of("src/main/java/DeoptMachine.java");

    private static final String FACE = "public DeoptMachine(int,int,int,int);"
            + "int emit(int,int,int);int seal(int);int erase(int);int code(int,int,int);int start(int,int,int);"
            + "int run(int);int abandon();int setGlobal(int,int);int global(int);int optimise(int);int assume(int);"
            + "boolean assumed(int);int status(int);int frame(int,int);int output(int);int clearOutput()";
    private static final String CONSTANTS = "REFUSED OK FULL HEIGHT INVALID MISSING PAUSED OUTPUT_FULL DIVIDE DEPTH "
            + "FINISHED IDLE ACTIVE DONE";
    private static final String FORBIDDEN = "import package float double String Object Math Integer Long System Arrays "
            + "null throw throws try catch finally synchronized assert instanceof interface enum record var Character "
            + "Boolean equals hashCode toString getClass clone wait notify protected volatile native";
    private static final String NOT_CALLS = "if for while switch return";

    public static void main(String[] args) throws IOException {
        members();
        String source = withoutComments(Files.readString(SOURCE));
        words(source);
        arrays(source);
        Map<String, String> bodies = methods(source);
        CHECK.due("methods found in the source", bodies.size(), DeoptMachine.class.getDeclaredMethods().length + 1);
        calls(bodies);
        CHECK.end();
    }

    private static void members() {
        Class<?> type = DeoptMachine.class;
        CHECK.due("public and final", type.getModifiers(), Modifier.PUBLIC | Modifier.FINAL);
        CHECK.due("nested classes", type.getDeclaredClasses().length, 0);
        TreeSet<String> face = new TreeSet<>();
        for (Constructor<?> each : type.getDeclaredConstructors()) {
            face.add(each.toString());
        }
        TreeSet<String> hidden = new TreeSet<>();
        for (Method each : type.getDeclaredMethods()) {
            String signature = each.toString().replace("public ", "").replace("DeoptMachine.", "");
            if (Modifier.isPublic(each.getModifiers())) {
                face.add(signature);
            } else {
                hidden.add(each.getName());
                isTrue(each + " is private", Modifier.isPrivate(each.getModifiers()));
            }
            isTrue(each + " has at most seven parameters", each.getParameterCount() <= 7);
        }
        same("the public face", face, new TreeSet<>(Arrays.asList(FACE.split(";"))));
        for (String name : hidden) {
            isTrue(name + " is no public name", face.stream().noneMatch(each -> each.contains(" " + name + "(")));
        }
        fields(type);
    }

    private static void fields(Class<?> type) {
        TreeSet<String> constants = new TreeSet<>();
        int own = 0;
        for (Field each : type.getDeclaredFields()) {
            int modifiers = each.getModifiers();
            boolean constant = Modifier.isStatic(modifiers);
            if (Modifier.isPublic(modifiers)) {
                constants.add(each.getName());
            } else {
                isTrue(each + " is private", Modifier.isPrivate(modifiers));
            }
            if (constant) {
                isTrue(each + " is a constant of int or long", Modifier.isFinal(modifiers)
                        && (each.getType() == int.class || each.getType() == long.class));
            } else {
                own++;
                isTrue(each + " is final if it is an array", !each.getType().isArray() || Modifier.isFinal(modifiers));
            }
        }
        same("the public constants", constants, new TreeSet<>(Arrays.asList(CONSTANTS.split(" "))));
        isTrue("at most forty fields", own <= 40);
    }

    private static void words(String source) {
        for (String word : FORBIDDEN.split(" ")) {
            isTrue("no word " + word, !Pattern.compile("\\b" + word + "\\b").matcher(source).find());
        }
        for (String sign : new String[] {"->", "::", "\"", "[][]", "@", "static {"}) {
            isTrue("no " + sign, !source.contains(sign));
        }
        isTrue("no class but one", source.split("\\bclass\\b", -1).length == 2);
    }

    private static void arrays(String source) {
        for (String line : source.split("\n")) {
            if (line.contains("new ")) {
                isTrue("made in a field's initialiser: " + line.trim(),
                        line.matches("    private final \\w+\\[\\] \\w+ = new \\w+\\[([A-Z_]+|\\d+)\\];"));
            }
        }
    }

    /** The methods and the constructor: name and body, found by the indentation. */
    private static Map<String, String> methods(String source) {
        Map<String, String> bodies = new LinkedHashMap<>();
        Matcher head = Pattern.compile("(?ms)^    (?:public|private)[^\\n=;]*?(\\w+)\\([^)]*\\) \\{\\n(.*?)^    \\}").matcher(source);
        while (head.find()) {
            String body = head.group(2);
            isTrue(head.group(1) + " is short", body.lines().count() <= 60);
            isTrue("one method named " + head.group(1), bodies.put(head.group(1), body) == null);
        }
        return bodies;
    }

    private static void calls(Map<String, String> bodies) {
        Map<String, List<String>> called = new LinkedHashMap<>();
        for (Map.Entry<String, String> each : bodies.entrySet()) {
            List<String> names = new ArrayList<>();
            Matcher call = Pattern.compile("(\\w+) ?\\(").matcher(each.getValue());
            while (call.find()) {
                if (Arrays.asList(NOT_CALLS.split(" ")).contains(call.group(1))) {
                    continue;
                }
                names.add(call.group(1));
                isTrue(call.group(1) + " is a method of the class", bodies.containsKey(call.group(1)));
                String given = arguments(each.getValue(), call.end());
                isTrue("no call in the arguments of " + call.group(1) + " in " + each.getKey(), !given.matches("(?s).*\\w\\(.*"));
            }
            called.put(each.getKey(), names);
        }
        for (String name : called.keySet()) {
            int depth = depthOf(name, called, 1);
            isTrue("calls from " + name + " go at most six deep, they go " + depth, depth <= 6);
        }
    }

    private static String arguments(String body, int from) {
        int open = 1;
        int at = from;
        while (open > 0) {
            char sign = body.charAt(at++);
            open += sign == '(' ? 1 : sign == ')' ? -1 : 0;
        }
        return body.substring(from, at - 1);
    }

    /** How many methods stand on each other at the most; 7 stands for recursion too. */
    private static int depthOf(String name, Map<String, List<String>> called, int depth) {
        int deepest = depth;
        if (depth < 7) {
            for (String next : called.getOrDefault(name, List.of())) {
                deepest = Math.max(deepest, depthOf(next, called, depth + 1));
            }
        }
        return deepest;
    }

    private static String withoutComments(String source) {
        return source.replaceAll("(?s)/\\*.*?\\*/", "").replaceAll("//[^\\n]*", "");
    }

    private static void isTrue(String what, boolean holds) {
        if (!holds) {
            CHECK.report("not so: " + what);
        }
    }

    private static void same(String what, TreeSet<String> got, TreeSet<String> want) {
        isTrue(what + " is " + want + ", found " + got, got.equals(want));
    }
}
