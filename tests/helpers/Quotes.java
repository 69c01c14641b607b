import java.io.IOException;
import java.nio.file.Files;
import java.nio.file.Path;

/**
 * Goes through ../shared/DOC.md from a heading to another, sentence by sentence: what a test quotes must stand
 * there next, so that no sentence is left out and none is held that the document doesn't have. The class can be
 * built and tested without the document: where it isn't, that is said, and only the runs are asked.
 */
final class Quotes {
    private static final Path DOCUMENT = Path.of("../shared/DOC.md");
    private static final int SHOWN = 60;

    private final boolean isHere = Files.isRegularFile(DOCUMENT);
    private final Due due;
    private final Script script;
    private final String doc;
    private int at = 0;
    private String sentence = "";

    /** Up to the end of the document, if to is empty. Blanks and line ends are all alike, fences don't count. */
    Quotes(Due due, String from, String to) throws IOException {
        this.due = due;
        script = new Script(due);
        if (!isHere) {
            System.out.println("no " + DOCUMENT + " here: the quotes from " + from + " on were not held against it");
            doc = "";
            return;
        }
        String all = Files.readString(DOCUMENT).replaceAll("(?m)^```\\w*$", "").replaceAll("\\s+", " ").trim();
        int begin = all.indexOf(from);
        int end = to.isEmpty() ? all.length() : all.indexOf(to);
        if (begin < 0 || end < begin) {
            throw new IllegalStateException("the document has no " + from + " ahead of " + to);
        }
        doc = all.substring(begin, end);
    }

    /** Whether there is a document to be read: what a test reads in it itself, it can only read then. */
    boolean isHere() {
        return isHere;
    }

    /** The next sentence, and a run that would answer otherwise if it did not hold. */
    void says(String quote, String... lines) {
        if (isHere) {
            goOn(quote);
        }
        sentence = quote;
        also(lines);
    }

    private void goOn(String quote) {
        boolean stands = doc.startsWith(quote, at);
        String next = doc.substring(at, Math.min(doc.length(), at + SHOWN));
        due.holds("the document goes on with \"" + quote + "\", not with \"" + next + "\"", stands);
        at += stands ? quote.length() : 0;
        while (at < doc.length() && doc.charAt(at) == ' ') {
            at++;
        }
    }

    /** One more run for the same sentence. */
    void also(String... lines) {
        if (lines.length > 0) {
            script.run("\"" + sentence + "\"", lines);
        }
    }

    /** What stands ahead of a sign, with the sign: for what a test reads itself. */
    String upTo(String sign) {
        int end = doc.indexOf(sign, at);
        String read = end < 0 ? "" : doc.substring(at, end);
        due.holds("the document has a " + sign + " there", end >= 0);
        says(read.trim());
        says(sign.trim());
        return read;
    }

    void end() {
        due.is("all of the document is quoted; behind: \"" + sentence + "\"", at, doc.length());
    }
}
