import java.io.IOException;
import java.io.UncheckedIOException;
import java.nio.file.Files;
import java.nio.file.Path;

/** The document's words, with one blank for each gap; a helper of the tests. */
final class Document {
    private static final Path FILE = Path.of("../shared/DOC.md");
    private static String words = null;

    private Document() {
    }

    static String text() {
        if (words == null) {
            words = withoutGaps(raw());
        }
        return words;
    }

    static String raw() {
        try {
            return Files.readString(FILE);
        } catch (IOException e) {
            throw new UncheckedIOException(e);
        }
    }

    static String withoutGaps(String text) {
        return text.replaceAll("\\s+", " ");
    }
}
