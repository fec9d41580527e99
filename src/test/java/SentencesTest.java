import java.io.IOException;
import java.nio.file.Files;
import java.nio.file.Path;
import java.util.ArrayList;
import java.util.Comparator;
import java.util.List;
import java.util.regex.Matcher;
import java.util.regex.Pattern;
import java.util.stream.Stream;

/** Every word of the document's terms and promises stands in a sentence that a test of edges names as its own. */
public final class SentencesTest {
    private static final String PIECE = "\"(?:[^\"\\\\]|\\\\.)*\"";
    private static final Pattern SAYS = Pattern.compile("DUE\\.says\\((" + PIECE + "(?:\\s*\\+\\s*" + PIECE + ")*)\\)");
    private static final String[] NO_SENTENCES = {"```text", "```", "==== \\w+\\.", "## Terms", "## Promise \\d+: [\\w ]+ `[^`]*`:"};

    private static List<String> sentences() throws IOException {
        List<String> sentences = new ArrayList<>();
        try (Stream<Path> files = Files.list(Path.of("src/test/java"))) {
            for (Path file : files.filter(path -> path.getFileName().toString().startsWith("Edges")).toList()) {
                Matcher says = SAYS.matcher(Files.readString(file));
                while (says.find()) {
                    sentences.add(says.group(1).replaceAll("\"\\s*\\+\\s*\"", "").replaceAll("^\"|\"$", ""));
                }
            }
        }
        // the longest first, so that a short one takes nothing out of the middle of a long one
        sentences.sort(Comparator.comparing(String::length).reversed());
        return sentences;
    }

    public static void main(String[] args) throws IOException {
        String rest = Document.words();
        rest = rest.substring(rest.indexOf("## Terms"), rest.indexOf("## Not promised"));
        for (String sentence : sentences()) {
            rest = rest.replace(sentence, "|");
        }
        for (String other : NO_SENTENCES) {
            rest = rest.replaceAll(other, "|");
        }
        rest = rest.replaceAll("[|, ]+", " ").trim();
        if (!rest.isEmpty()) {
            System.out.println("SentencesTest: no test of edges is about: " + rest);
            System.exit(1);
        }
        System.out.println("SentencesTest: every sentence has its tests");
    }
}
