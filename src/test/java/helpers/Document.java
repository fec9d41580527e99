import java.io.IOException;
import java.nio.file.Files;
import java.nio.file.Path;

/** ../shared/DOC.md, each run of blanks and line ends in it being one blank. */
public final class Document {
    private static final Path PLACE = Path.of("../shared/DOC.md");

    private static final String WORDS = read();

    private Document() { }

    public static String words() {
        return WORDS;
    }

    private static String read() {
        try {
            return inOneLine(Files.readString(PLACE));
        } catch (IOException e) {
            throw new IllegalStateException("there is no " + PLACE, e);
        }
    }

    public static String inOneLine(String text) {
        return text.replaceAll("\\s+", " ");
    }
}
