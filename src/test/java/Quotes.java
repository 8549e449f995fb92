import java.io.IOException;
import java.nio.file.Files;
import java.nio.file.Path;

/** Looks the words that the tests quote up in the document, and each line of what a call answers or throws in the tests. */
final class Quotes {
    private static final Path DOCUMENT = Path.of("..", "shared", "DOC.md");
    private static final String PROMISE = "## Promise ";

    private Quotes() {
    }

    static void check() {
        Due.topic("quotes");
        String document;
        try {
            document = Files.readString(DOCUMENT);
        } catch (IOException e) {
            // The tests hold without the document; only their names can't be looked up.
            System.out.println("the quotes are not looked up: cannot read " + DOCUMENT);
            return;
        }
        String words = document.replaceAll("\\s+", " ");
        for (Bounds.Quote quote : Bounds.quotes()) {
            Due.holds("the document says \"" + quote.words() + "\"", words.contains(quote.words()));
        }
        int promise = 0;
        for (String line : document.split("\n")) {
            if (line.startsWith(PROMISE)) {
                promise = Integer.parseInt(line.substring(PROMISE.length(), line.indexOf(':')));
            }
            if (line.startsWith("Throws ") || line.startsWith("Returns ")) {
                Due.holds("promise " + promise + " has a test of \"" + line + "\"", isTested(promise, line));
            }
        }
    }

    private static boolean isTested(int promise, String line) {
        for (Bounds.Quote quote : Bounds.quotes()) {
            if (quote.promise() == promise && line.contains(quote.words())) {
                return true;
            }
        }
        return false;
    }
}
