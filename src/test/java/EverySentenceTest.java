import java.io.IOException;
import java.nio.file.Files;
import java.nio.file.Path;
import java.util.Arrays;
import java.util.List;
import java.util.Map;
import java.util.regex.Matcher;
import java.util.regex.Pattern;

/**
 * Runs the tests that go by sentences, and looks whether they leave a sentence of the document out: each word from
 * "Terms" to "Not promised" must stand in what they quote (and ask of), but for headings, faces, and what says
 * nothing of a call.
 */
public final class EverySentenceTest {
    private static final Due DUE = new Due();
    private static final int PROMISES = 27;

    /** What says nothing of what a call answers or changes. */
    private static final List<String> FRAMES = List.of(
        "## Terms", "==== 2", "==== 3", "```text", "```",
        "Ahead of the calls (`\\w+`, )*`\\w+` the interface says: ---- [a-z ]+\\.",
        "## Promise \\d+: [\\w ]+ `[^`]+`:");

    public static void main(String[] args) throws IOException {
        BoundsOfCarsTest.main(args);
        BoundsOfTextsTest.main(args);
        BoundsOfMinutesTest.main(args);
        BoundsOfBestTest.main(args);
        BoundsOfToldTest.main(args);
        BoundsOfHostTest.main(args);
        RefusalsTest.main(args);
        String document = Sentences.plain(Files.readString(Path.of("../shared/DOC.md")));
        int begin = document.indexOf("## Terms");
        int end = document.indexOf("## Not promised");
        DUE.holds("the document has terms and promises", begin >= 0 && end > begin);
        if (begin >= 0 && end > begin) {
            eachWordIsQuoted(document.substring(begin, end));
        }
        eachPromiseIsQuoted();
        DUE.end();
    }

    private static void eachWordIsQuoted(String said) {
        char[] left = said.toCharArray();
        for (Map.Entry<String, Integer> quote : Sentences.quoted().entrySet()) {
            takeOut(said, quote.getKey(), left);
        }
        for (String frame : FRAMES) {
            Matcher there = Pattern.compile(frame).matcher(said);
            while (there.find()) {
                Arrays.fill(left, there.start(), there.end(), '\n');
            }
        }
        // what stands between two quotes is a sign, no word
        for (String unsaid : new String(left).split("\n")) {
            DUE.holds("a test quotes: " + unsaid, unsaid.chars().noneMatch(Character::isLetterOrDigit));
        }
    }

    private static void takeOut(String said, String quote, char[] left) {
        for (int i = said.indexOf(quote); i >= 0; i = said.indexOf(quote, i + 1)) {
            Arrays.fill(left, i, i + quote.length(), '\n');
        }
    }

    private static void eachPromiseIsQuoted() {
        for (int promise = 1; promise <= PROMISES; promise++) {
            DUE.holds("a test quotes promise " + promise, Sentences.quoted().containsValue(promise));
        }
    }
}
