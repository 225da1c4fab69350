import java.io.IOException;
import java.nio.file.Files;
import java.nio.file.Path;
import java.util.regex.Matcher;
import java.util.regex.Pattern;

/**
 * Sentences of the document, each quoted by the test that holds the class against it. A quote that does not stand in
 * the document is wrong, and so are words of its terms and a promise that no test has quoted.
 */
final class Said {
    private static final String DOCUMENT = read();
    private static final int TERMS = DOCUMENT.indexOf("## Terms") + "## Terms".length();
    private static final int PROMISES = DOCUMENT.indexOf("## Promise 1:");
    private static final int COUNT = 49;
    private static final boolean[] QUOTED = new boolean[DOCUMENT.length()];
    private static final boolean[] PROMISED = new boolean[COUNT + 1];
    private static String now = "";

    private Said() {
    }

    /** The document in one line, without the marks between its parts. */
    private static String read() {
        try {
            return Files.readString(Path.of("../shared/DOC.md")).replaceAll("(?m)^Ahead of the calls .*$", "")
                    .replaceAll("```\\w*", "").replaceAll("==== I+\\.", "").replaceAll("====", "")
                    .replaceAll("\\s+", " ");
        } catch (IOException e) {
            throw new IllegalStateException(e);
        }
    }

    /** What follows is due by these words of the terms. */
    static void so(String words) {
        now = words;
        int at = DOCUMENT.indexOf(words, TERMS);
        Due.that("the terms do not say: " + words, at >= 0 && at < PROMISES);
        for (; at >= 0 && at < PROMISES; at = DOCUMENT.indexOf(words, at + 1)) {
            for (int i = at; i < at + words.length(); i++) {
                QUOTED[i] = true;
            }
        }
    }

    /** What follows is due by a promise; these words are all that its section says behind the call. */
    static void promise(int number, String words) {
        now = number + ": " + words;
        PROMISED[number] = true;
        Matcher section = Pattern.compile("## Promise " + number + ": [^`]*`[^`]*`: (.*?) ## ").matcher(DOCUMENT);
        Due.that("promise " + number + " does not say just: " + words,
                section.find() && section.group(1).equals(words));
    }

    static void is(String call, long got, long due) {
        Due.is("\"" + now + "\": " + call, got, due);
    }

    static void that(String what, boolean holds) {
        Due.that("\"" + now + "\": " + what, holds);
    }

    /** All words of the terms and all promises have been quoted. */
    static void allQuoted() {
        for (int i = TERMS; i < PROMISES; i++) {
            int end = i;
            while (end < PROMISES && !QUOTED[end]) {
                end++;
            }
            String left = DOCUMENT.substring(i, end);
            Due.that("no test quotes: " + left, !left.matches(".*[A-Za-z0-9].*"));
            i = Math.max(i, end - 1);
        }
        for (int number = 1; number <= COUNT; number++) {
            Due.that("no test quotes promise " + number, PROMISED[number]);
        }
    }
}
