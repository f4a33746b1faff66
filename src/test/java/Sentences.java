import java.io.IOException;
import java.io.UncheckedIOException;
import java.nio.file.Files;
import java.nio.file.Path;
import java.util.Arrays;
import java.util.Map;
import java.util.TreeMap;
import java.util.function.Consumer;
import java.util.regex.Matcher;
import java.util.regex.Pattern;

/**
 * Tests by the document's own sentences: each quotes the words that it is about. The words must stand in the
 * section that is named, and at the end each word of the document that tells of a boundary must have been quoted.
 */
final class Sentences {
    /** The number of the section ahead of the promises, "Terms". */
    static final int TERMS = 0;
    private static final int PROMISES = 44;
    private static final Pattern BOUNDARY = Pattern.compile("NONE|-2|-3|at most|at first|none|of several|nobody");

    private final Map<Integer, String> sections = new TreeMap<>();
    private final Map<Integer, boolean[]> quoted = new TreeMap<>();
    private int section;
    private String words = "";
    private int tests = 0;
    private int checks = 0;
    private int wrong = 0;

    Sentences(Path document) {
        String text = read(document).replace("```text", " ").replace("```", " ");
        for (int promise = TERMS; promise <= PROMISES; promise++) {
            String begin = promise == TERMS ? "## Terms" : "## Promise " + promise + ":";
            int at = text.indexOf("\n", text.indexOf(begin));
            int behind = text.indexOf("\n## ", at);
            String body = text.substring(at, behind).replaceAll("\\s+", " ").trim().replaceFirst("^`[^`]*`: ", "");
            sections.put(promise, body);
            quoted.put(promise, new boolean[body.length()]);
        }
    }

    private static String read(Path document) {
        try {
            return Files.readString(document);
        } catch (IOException unread) {
            throw new UncheckedIOException(unread);
        }
    }

    /** What the document says in a section, and a test that fails if it is not so. */
    void says(int promise, String quote, Consumer<Trial> test) {
        section = promise;
        words = quote;
        tests++;
        int at = sections.get(promise).indexOf(quote);
        if (at < 0) {
            wrong("these words are not in the document");
        }
        for (; at >= 0; at = sections.get(promise).indexOf(quote, at + 1)) {
            Arrays.fill(quoted.get(promise), at, at + quote.length(), true);
        }
        test.accept(new Trial(this));
    }

    boolean check(boolean holds, String otherwise) {
        checks++;
        if (!holds) {
            wrong(otherwise);
        }
        return holds;
    }

    void wrong(String what) {
        wrong++;
        System.out.println((section == TERMS ? "Terms" : "promise " + section) + ", \"" + words + "\": " + what);
    }

    /** Whether all was as due, and no boundary was left out. */
    boolean end() {
        for (int promise = TERMS; promise <= PROMISES; promise++) {
            section = promise;
            Matcher boundary = BOUNDARY.matcher(sections.get(promise));
            while (boundary.find()) {
                int at = boundary.start();
                words = sections.get(promise).substring(Math.max(0, at - 30), Math.min(sections.get(promise).length(), at + 30));
                check(quoted.get(promise)[at], "no test quotes this '" + boundary.group() + "'");
            }
        }
        System.out.println(tests + " sentences, " + checks + " answers: " + (wrong == 0 ? "all as due" : wrong + " not as due"));
        return wrong == 0;
    }
}
