import java.nio.file.Files;
import java.nio.file.Path;

/**
 * The document, sentence by sentence: each is quoted beside the test that holds it. What is quoted, put
 * together, must be the document's own part from one mark to another, so that no sentence is left out.
 */
final class Document {
    private static final Path PLACE = Path.of("..", "shared", "DOC.md");
    private static final StringBuilder QUOTED = new StringBuilder();

    private Document() {
    }

    /** A sentence, or a part of one, and what would answer otherwise if it did not hold. */
    static void says(String quote, Runnable test) {
        QUOTED.append(quote);
        int asked = Check.asked();
        test.run();
        Check.due("the test of '" + quote + "' asks something", Check.asked() > asked, true);
    }

    /** All that stands between two marks was quoted, in its order (blanks, heads and fences do not matter). */
    static void quotedFrom(String from, String to) throws Exception {
        if (!Files.exists(PLACE)) {
            System.out.println("no document at " + PLACE + ": what is quoted was not held against it");
            return;
        }
        String text = Files.readString(PLACE);
        int start = from.isEmpty() ? 0 : text.indexOf(from);
        int end = text.indexOf(to);
        Check.due("the document has both marks", start >= 0 && end > start, true);
        String due = bare(text.substring(Math.max(0, start), Math.max(start, end)));
        String got = bare(QUOTED.toString());
        QUOTED.setLength(0);
        int at = 0;
        while (at < due.length() && at < got.length() && due.charAt(at) == got.charAt(at)) {
            at++;
        }
        String rest = due.substring(at, Math.min(due.length(), at + 60));
        Check.due("quoted up to '" + rest + "'", due.equals(got), true);
    }

    private static String bare(String text) {
        return text.replaceAll("(?m)^#.*$", "").replaceAll("(?m)^```.*$", "").replaceAll("[\\s`]", "");
    }
}
