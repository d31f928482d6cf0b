import java.io.IOException;
import java.nio.charset.StandardCharsets;
import java.nio.file.Files;
import java.nio.file.Path;
import java.util.HashSet;
import java.util.Set;
import java.util.function.Consumer;

/** One test for each sentence of the document that names a boundary case; they are counted by promise. */
final class Sentences {
    private static final int PROMISES = 40;
    private static final int[] COUNTS = new int[PROMISES + 1];
    private static final Set<String> SEEN = new HashSet<>();
    private static final String DOCUMENT = document();

    private Sentences() {
    }

    private static String document() {
        try {
            return Files.readString(Path.of("../shared/DOC.md"), StandardCharsets.UTF_8);
        } catch (IOException e) {
            return null;
        }
    }

    /** The words stand in the document, and what they say holds for a new object. */
    static void holds(int promise, String words, Consumer<TearCustoms> test) {
        COUNTS[promise]++;
        Check.about("promise " + promise + ", \"" + words + "\": ");
        Check.same("told once", SEEN.add(promise + words), true);
        if (DOCUMENT != null) {
            Check.same("stands in the document", DOCUMENT.contains(words), true);
        }
        int before = Check.asked();
        try {
            test.accept(new TearCustoms());
        } catch (RuntimeException | StackOverflowError e) {
            Check.same("threw " + e + ",", true, false);
        }
        Check.same("something is asked", Check.asked() > before, true);
        Check.about("");
    }

    static void finish() {
        int all = 0;
        for (int promise = 1; promise <= PROMISES; promise++) {
            Check.same("promise " + promise + " has a test", COUNTS[promise] > 0, true);
            all += COUNTS[promise];
        }
        System.out.println(all + " sentences of " + PROMISES + " promises");
        Check.finish();
    }
}
