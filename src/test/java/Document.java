import java.io.IOException;
import java.io.UncheckedIOException;
import java.nio.file.Files;
import java.nio.file.Path;

/** The words of ../shared/DOC.md, so that a test that names a sentence names one that is there. */
final class Document {
    private static final Path PLACE = Path.of("..", "shared", "DOC.md");
    private static final String WORDS = read();

    private Document() {
    }

    /** Where the document does not lie beside the project, its words can't be looked up. */
    static boolean has(String words) {
        return WORDS == null || WORDS.contains(words);
    }

    private static String read() {
        if (!Files.exists(PLACE)) {
            return null;
        }
        try {
            return Files.readString(PLACE).replaceAll("\\s+", " ");
        } catch (IOException e) {
            throw new UncheckedIOException(e);
        }
    }
}
