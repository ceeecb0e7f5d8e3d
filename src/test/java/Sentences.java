import java.io.IOException;
import java.nio.file.Files;
import java.nio.file.Path;
import java.util.LinkedHashMap;
import java.util.Map;

/** Tests by sentences: each quotes words that must stand in the document, and asks at least once. */
final class Sentences {
    static final int LEAST = Integer.MIN_VALUE, MOST = Integer.MAX_VALUE;

    private static final Map<String, Integer> QUOTED = new LinkedHashMap<>();

    private final Due due = new Due();
    private final String document;
    private String words;
    private int promise;
    private int asked;

    Sentences() {
        document = plain(read());
    }

    /** What is asked from here on tests these words of the document. */
    void says(int ofPromise, String quoted) {
        endSentence();
        promise = ofPromise;
        words = quoted;
        asked = 0;
        due.holds("the document says: " + quoted, document.contains(plain(quoted)));
        QUOTED.put(plain(quoted), ofPromise);
    }

    /** All that was quoted till now in this run, and of which promise. */
    static Map<String, Integer> quoted() {
        return QUOTED;
    }

    void is(String call, long got, long want) {
        asked++;
        due.is(promise, "\"" + words + "\": " + call, got, want);
    }

    void end() {
        endSentence();
        due.end();
    }

    private void endSentence() {
        if (words != null) {
            due.holds("something is asked of: " + words, asked > 0);
        }
    }

    private static String read() {
        try {
            return Files.readString(Path.of("../shared/DOC.md"));
        } catch (IOException e) {
            throw new IllegalStateException("no document", e);
        }
    }

    static String plain(String text) {
        return text.replaceAll("\\s+", " ");
    }
}
