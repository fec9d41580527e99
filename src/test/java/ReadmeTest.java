import java.io.ByteArrayOutputStream;
import java.io.PrintStream;
import java.lang.reflect.Method;
import java.lang.reflect.Modifier;
import java.net.URL;
import java.net.URLClassLoader;
import java.nio.charset.StandardCharsets;
import java.nio.file.Files;
import java.nio.file.Path;
import java.util.Comparator;
import java.util.stream.Stream;
import javax.tools.ToolProvider;

/** README.md's example compiles and prints what stands below it; its table has every call of the face. */
public final class ReadmeTest {
    private static final Due DUE = new Due("ReadmeTest");

    /** What stands in the first block of this sort. */
    private static String block(String readme, String sort) {
        String start = "```" + sort + "\n";
        int from = readme.indexOf(start) + start.length();
        return readme.substring(from, readme.indexOf("```", from));
    }

    private static String printedBy(String example) throws Exception {
        Path directory = Files.createTempDirectory("readme");
        try {
            Path file = Files.writeString(directory.resolve("Example.java"), example);
            int failed = ToolProvider.getSystemJavaCompiler().run(null, null, null, "-cp",
                System.getProperty("java.class.path"), "-d", directory.toString(), file.toString());
            return failed != 0 ? "the example does not compile" : printedIn(directory);
        } finally {
            try (Stream<Path> made = Files.walk(directory)) {
                made.sorted(Comparator.reverseOrder()).forEach(path -> path.toFile().delete());
            }
        }
    }

    private static String printedIn(Path directory) throws Exception {
        PrintStream out = System.out;
        ByteArrayOutputStream printed = new ByteArrayOutputStream();
        try (URLClassLoader loader = new URLClassLoader(new URL[] {directory.toUri().toURL()})) {
            System.setOut(new PrintStream(printed, true, StandardCharsets.UTF_8));
            loader.loadClass("Example").getMethod("main", String[].class).invoke(null, (Object) new String[0]);
        } finally {
            System.setOut(out);
        }
        return printed.toString(StandardCharsets.UTF_8).replace("\r\n", "\n");
    }

    private static void table(String readme) {
        StringBuilder rows = new StringBuilder();
        readme.lines().filter(line -> line.startsWith("|")).forEach(rows::append);
        for (Method method : UnderstudyShow.class.getDeclaredMethods()) {
            if (Modifier.isPublic(method.getModifiers())) {
                DUE.is("the table has " + method.getName(), rows.indexOf("`" + method.getName() + "`") >= 0, true);
            }
        }
    }

    public static void main(String[] args) throws Exception {
        String readme = Files.readString(Path.of("README.md"));
        String want = block(readme, "text");
        String got = printedBy(block(readme, "java"));
        DUE.is("the example prints what stands below it", got.equals(want), true);
        if (!got.equals(want)) {
            System.out.println(got);
        }
        table(readme);
        DUE.end();
    }
}
