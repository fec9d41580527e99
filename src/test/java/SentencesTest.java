import java.io.IOException;
import java.nio.file.Files;
import java.nio.file.Path;
import java.util.ArrayList;
import java.util.List;
import java.util.regex.Matcher;
import java.util.regex.Pattern;
import java.util.stream.Stream;

/** Every word of the document's terms and promises stands in a sentence that a test of edges names as its own. */
public final class SentencesTest {
    private static final String PIECE = "\"(?:[^\"\\\\]|\\\\.)*\"";
    private static final Pattern SAYS = Pattern.compile("DUE\\.says\\((" + PIECE + "(?:\\s*\\+\\s*" + PIECE + ")*)\\)");
    private static final String[] NO_SENTENCES =
        {"```text", "```", "==== \\w+\\.", "## Terms", "## Promise \\d+: [\\w ]+ `[^`]*`:"};
    private static final String COVERED = "~";

    private static List<String> sentences() throws IOException {
        List<String> sentences = new ArrayList<>();
        try (Stream<Path> files = Files.list(Path.of("src/test/java"))) {
            for (Path file : files.filter(path -> path.getFileName().toString().startsWith("Edges")).toList()) {
                Matcher says = SAYS.matcher(Files.readString(file));
                while (says.find()) {
                    sentences.add(says.group(1).replaceAll("\"\\s*\\+\\s*\"", "").replaceAll("^\"|\"$", ""));
                }
            }
        }
        return sentences;
    }

    /** The document with a sign in place of each letter that a sentence covers; sentences may overlap. */
    private static String withoutThem(String document, List<String> sentences) {
        StringBuilder rest = new StringBuilder(document);
        for (String sentence : sentences) {
            for (int at = document.indexOf(sentence); at >= 0; at = document.indexOf(sentence, at + 1)) {
                rest.replace(at, at + sentence.length(), COVERED.repeat(sentence.length()));
            }
        }
        return rest.toString();
    }

    public static void main(String[] args) throws IOException {
        String document = Document.words();
        document = document.substring(document.indexOf("## Terms"), document.indexOf("## Not promised"));
        String rest = withoutThem(document, sentences());
        for (String other : NO_SENTENCES) {
            rest = rest.replaceAll(other, COVERED);
        }
        rest = rest.replaceAll("[~, ]+", " ").trim();
        if (!rest.isEmpty()) {
            System.out.println("SentencesTest: no test of edges is about: " + rest);
            System.exit(1);
        }
        System.out.println("SentencesTest: every sentence has its tests");
    }
}
