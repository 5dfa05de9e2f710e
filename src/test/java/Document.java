import java.io.IOException;
import java.nio.file.Files;
import java.nio.file.Path;

/**
 * The document, read from its first word to its last: what is quoted must stand there next, so that nothing of it is
 * left out. What says() quotes tells an answer or a change, and needs a test; what names() quotes tells neither.
 */
final class Document {
    private static String text = "";
    private static int at = 0;
    private static String quote = "";
    private static boolean isUntested = false;
    private static int sentences = 0;
    private static int tests = 0;
    private static int wrong = 0;

    private Document() {
    }

    static void open(Path path) throws IOException {
        text = plain(Files.readString(path));
    }

    private static String plain(String words) {
        return words.replaceAll("\\s+", " ").trim();
    }

    static void says(String words) {
        names(words);
        sentences++;
        isUntested = true;
    }

    static void names(String words) {
        closeQuote();
        quote = plain(words);
        while (at < text.length() && text.charAt(at) == ' ') {
            at++;
        }
        if (text.startsWith(quote, at)) {
            at += quote.length();
            return;
        }
        fail("the document does not say next: " + quote + " .. but: " + text.substring(at, Math.min(text.length(), at + 100)));
        // Where it stands farther on, what is behind it can be looked at all the same.
        int later = text.indexOf(quote, at);
        at = later < 0 ? at : later + quote.length();
    }

    /** Rows (as Rows says) that would fail if the sentence quoted latest did not hold. */
    static void test(String title, String... rows) {
        addTest();
        Rows.play("\"" + quote + "\", " + title, rows);
    }

    static void holds(String title, boolean is) {
        addTest();
        if (!is) {
            fail("\"" + quote + "\", " + title + " does not hold");
        }
    }

    private static void addTest() {
        tests++;
        isUntested = false;
    }

    private static void closeQuote() {
        if (isUntested) {
            fail("no test: " + quote);
        }
        isUntested = false;
    }

    private static void fail(String why) {
        wrong++;
        System.out.println(why);
    }

    /** Each sentence has a test, nothing of the document is left, and no row was wrong. */
    static void end() {
        closeQuote();
        if (at < text.length()) {
            fail("not quoted: " + text.substring(at, Math.min(text.length(), at + 200)));
        }
        wrong += Rows.wrong();
        System.out.println(sentences + " sentences, " + tests + " tests, " + Rows.rowsRun() + " rows, " + wrong + " not as due");
        System.exit(wrong == 0 ? 0 : 1);
    }
}
