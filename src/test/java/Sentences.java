import java.io.IOException;
import java.io.UncheckedIOException;
import java.nio.file.Files;
import java.nio.file.Path;
import java.util.Arrays;
import java.util.Map;
import java.util.TreeMap;
import java.util.function.Consumer;
import java.util.regex.Matcher;
import java.util.regex.Pattern;

/**
 * Tests by the document's own sentences: each quotes the words that it is about. The words must stand in the
 * section that is named, and at the end each word of these sections, from "What it is" on, must have been quoted.
 */
final class Sentences {
    /** The numbers of the sections ahead of the promises. "The public face" between them has FaceTests. */
    static final int WHAT_IT_IS = -1;
    static final int TERMS = 0;
    private static final int PROMISES = 44;
    private static final Pattern WORD = Pattern.compile("-?\\w+");
    // What only heads a part of the document, and asks for nothing.
    private static final Pattern HEADING = Pattern.compile("==== I{1,2}\\.");

    private final Map<Integer, String> sections = new TreeMap<>();
    private final Map<Integer, boolean[]> quoted = new TreeMap<>();
    private int section;
    private String words = "";
    private int tests = 0;
    private int checks = 0;
    private int wrong = 0;

    Sentences(Path document) {
        String text = read(document).replace("```text", " ").replace("```", " ");
        for (int promise = WHAT_IT_IS; promise <= PROMISES; promise++) {
            int at = text.indexOf("\n", text.indexOf("## " + headOf(promise)));
            int behind = text.indexOf("\n## ", at);
            String body = text.substring(at, behind).replaceAll("\\s+", " ").trim().replaceFirst("^`[^`]*`: ", "");
            body = HEADING.matcher(body).replaceAll("").trim();
            sections.put(promise, body);
            quoted.put(promise, new boolean[body.length()]);
        }
    }

    private static String headOf(int promise) {
        if (promise == WHAT_IT_IS) {
            return "What it is";
        }
        return promise == TERMS ? "Terms" : "Promise " + promise + ":";
    }

    private static String read(Path document) {
        try {
            return Files.readString(document);
        } catch (IOException unread) {
            throw new UncheckedIOException(unread);
        }
    }

    /** What the document says in a section, and a test that fails if it is not so. */
    void says(int promise, String quote, Consumer<Trial> test) {
        section = promise;
        words = quote;
        tests++;
        int at = sections.get(promise).indexOf(quote);
        if (at < 0) {
            wrong("these words are not in the document");
        }
        for (; at >= 0; at = sections.get(promise).indexOf(quote, at + 1)) {
            Arrays.fill(quoted.get(promise), at, at + quote.length(), true);
        }
        test.accept(new Trial(this));
    }

    boolean check(boolean holds, String otherwise) {
        checks++;
        if (!holds) {
            wrong(otherwise);
        }
        return holds;
    }

    void wrong(String what) {
        wrong++;
        System.out.println(headOf(section) + " \"" + words + "\": " + what);
    }

    /** Whether all was as due, and no word was left out. */
    boolean end() {
        for (int promise : sections.keySet()) {
            section = promise;
            String text = sections.get(promise);
            Matcher word = WORD.matcher(text);
            while (word.find()) {
                words = text.substring(Math.max(0, word.start() - 30), Math.min(text.length(), word.end() + 30));
                if (!quoted.get(promise)[word.start()]) {
                    wrong("no test quotes this '" + word.group() + "'");
                }
            }
        }
        System.out.println(tests + " sentences, " + checks + " answers: " + (wrong == 0 ? "all as due" : wrong + " not as due"));
        return wrong == 0;
    }
}
