import java.io.IOException;
import java.nio.file.Files;
import java.nio.file.Path;
import java.util.function.Consumer;

/**
 * The edges of one promise, each bound to the sentence of the document that names it: the sentence is printed when
 * its test fails, and it must stand in the document as it is quoted, so that no test outlives its sentence.
 */
final class Edges {
    private static final Path DOCUMENT = Path.of("../shared/DOC.md");

    private final int number;
    // null where the document is not at hand: then the tests run, but their quotations are not looked up.
    private final String promise;
    private int broken = 0;

    Edges(int number) throws IOException {
        this.number = number;
        this.promise = textOf(number);
    }

    /** Runs the test of a sentence. A test that throws has failed, and those after it still run. */
    void holds(String sentence, Consumer<Check> test) {
        Check check = new Check();
        if (promise != null && !promise.contains(sentence)) {
            check.report("the document does not say this");
        }
        try {
            test.accept(check);
        } catch (RuntimeException thrown) {
            check.report("the test was thrown out of by " + thrown + " at " + thrown.getStackTrace()[0]);
        }
        if (check.wrong() != 0) {
            broken++;
            System.out.println("  so promise " + number + " is broken where it says: " + sentence);
        }
    }

    void end() {
        if (broken != 0) {
            System.out.println(broken + " tests of promise " + number + " failed");
            System.exit(1);
        }
    }

    /** Numbers outside least..greatest: just outside, far outside, and such that a product or a sum wraps around. */
    static int[] outside(int least, int greatest) {
        return new int[] {Integer.MIN_VALUE, Integer.MIN_VALUE + 7, -(1 << 27), least - 1, greatest + 1, greatest + 2,
            1 << 8, 1 << 16, 1 << 27, 1 << 30, Integer.MAX_VALUE};
    }

    private static String textOf(int number) throws IOException {
        if (!Files.exists(DOCUMENT)) {
            System.out.println(DOCUMENT + " is not there: the quotations are not looked up");
            return null;
        }
        String document = Files.readString(DOCUMENT);
        int from = document.indexOf("## Promise " + number + ":");
        int to = from < 0 ? -1 : document.indexOf("\n## ", from);
        if (to < 0) {
            throw new IllegalStateException("the document has no promise " + number);
        }
        return document.substring(from, to);
    }
}
