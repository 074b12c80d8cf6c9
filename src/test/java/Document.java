import java.io.IOException;
import java.nio.file.Files;
import java.nio.file.Path;
import java.util.ArrayList;
import java.util.List;

/**
 * ../shared/DOC.md, as one row of words for each promise and for the terms. What tests quote is marked in it, so that
 * a quote that isn't there and a sentence that no test quotes are both found.
 */
final class Document {
    static final int PROMISES = 30;

    private final List<StringBuilder> left = new ArrayList<>();

    Document() {
        String text = read();
        left.add(new StringBuilder(terms(text)));
        for (int p = 1; p <= PROMISES; p++) {
            left.add(new StringBuilder(promise(text, p)));
        }
    }

    private static String read() {
        try {
            return Files.readString(Path.of("../shared/DOC.md")).replaceAll("\\s+", " ");
        } catch (IOException e) {
            throw new IllegalStateException(e);
        }
    }

    /** The bound of calls, and the terms with neither their headings nor the marks of their blocks. */
    private static String terms(String text) {
        String calls = between(text, "An object is used", "## The public face");
        String all = between(text, "## Terms", "Ahead of the calls").substring("## Terms".length());
        return "An object is used" + calls.substring("An object is used".length())
            + all.replace("```text", "").replace("```", "").replaceAll("======== \\d", "").replaceAll(" +", " ");
    }

    /** What is promised, without the heading and the call's face. */
    private static String promise(String text, int p) {
        String next = p < PROMISES ? "## Promise " + (p + 1) + ":" : "## Not promised";
        String whole = between(text, "## Promise " + p + ":", next);
        return whole.substring(whole.indexOf("`: ") + 3);
    }

    private static String between(String text, String from, String to) {
        int start = text.indexOf(from);
        int stop = text.indexOf(to, start);
        if (start < 0 || stop < 0) {
            throw new IllegalStateException("the document has no " + from + " .. " + to);
        }
        return text.substring(start, stop);
    }

    /** Marks a quote in a promise, or, if that hasn't it, in the terms; whether it stood there unmarked. */
    boolean mark(int promise, String words) {
        return markIn(left.get(promise), words) || markIn(left.get(0), words);
    }

    private static boolean markIn(StringBuilder row, String words) {
        int at = row.indexOf(words);
        if (at < 0) {
            return false;
        }
        for (int i = 0; i < words.length(); i++) {
            row.setCharAt(at + i, '~');
        }
        return true;
    }

    /** What no test has quoted of a promise, or of the terms (0). */
    String unmarked(int promise) {
        return left.get(promise).toString().replaceAll("[~ ]+", " ").trim();
    }
}
