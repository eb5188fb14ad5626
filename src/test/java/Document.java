import java.io.IOException;
import java.nio.file.Files;
import java.nio.file.Path;

/**
 * The document, gone through from its first line on: what is quoted next must stand where the last quote ended, so that
 * no sentence is left out. Without ../shared/DOC.md the quotes are only told with the answers.
 */
final class Document {
    private static final Path FILE = Path.of("../shared/DOC.md");

    private static String words = null;
    private static int place = 0;

    private Document() {
    }

    static void open() throws IOException {
        if (!Files.exists(FILE)) {
            System.out.println("no " + FILE + ": the quotes are not held against it");
            return;
        }
        StringBuilder s = new StringBuilder();
        for (String line : Files.readString(FILE).split("\n")) {
            // Fences and rows of = are no words of the document.
            s.append(line.startsWith("```") ? "" : line.replaceAll("^=+", "")).append(' ');
        }
        words = plain(s.toString());
    }

    private static String plain(String text) {
        return text.replaceAll("\\s+", " ").trim();
    }

    /** The next words of the document, which no answer can bear out: a heading, what it leaves free. */
    static void passes(String quote) {
        Due.says(quote);
        if (words == null) {
            return;
        }
        String due = plain(quote);
        Due.same("the document", words.substring(place, Math.min(place + due.length(), words.length())), due);
        place = Math.min(place + due.length(), words.length());
        while (place < words.length() && words.charAt(place) == ' ') {
            place++;
        }
    }

    /** The next words of the document, which the answers asked from here on bear out. */
    static void says(String quote) {
        passes(quote);
    }

    /** All words up to some, which the next quote can begin with; empty if there is no document. */
    static String until(String quote) {
        if (words == null) {
            return "";
        }
        int end = Math.max(place, words.indexOf(quote, place));
        String between = words.substring(place, end);
        place = end;
        return between;
    }

    static void close() {
        if (words != null) {
            Due.same("what was not quoted", words.substring(place), "");
        }
    }
}
