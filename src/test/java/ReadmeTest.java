import java.io.ByteArrayOutputStream;
import java.io.File;
import java.io.PrintStream;
import java.net.URL;
import java.net.URLClassLoader;
import java.nio.charset.StandardCharsets;
import java.nio.file.Files;
import java.nio.file.Path;
import java.util.Comparator;
import java.util.List;
import java.util.regex.Matcher;
import java.util.regex.Pattern;
import java.util.stream.Stream;
import javax.tools.ToolProvider;

/** README.md: its example prints what is told there, and it names every call and every test. */
public final class ReadmeTest {
    private static final Due DUE = new Due("ReadmeTest");

    public static void main(String[] args) throws Exception {
        String readme = Files.readString(Path.of("README.md"));
        Path folder = Files.createTempDirectory("readme");
        try {
            example(readme, folder);
        } finally {
            remove(folder);
        }
        namesEveryCall(readme);
        namesEveryTest(readme);
        DUE.end();
    }

    private static void example(String readme, Path folder) throws Exception {
        Path source = folder.resolve("Example.java");
        Files.writeString(source, block(readme, "java"));
        int failed = ToolProvider.getSystemJavaCompiler().run(null, null, null, "-cp",
                System.getProperty("java.class.path"), "-d", folder.toString(), source.toString());
        DUE.is("compiling the example", failed, 0);
        if (failed == 0) {
            DUE.is("what the example prints", printedByExample(folder), block(readme, "text"));
        }
    }

    /** What stands in the only block of this sort. */
    private static String block(String readme, String sort) {
        Matcher blocks = Pattern.compile("(?ms)^```" + sort + "\\n(.*?)^```$").matcher(readme);
        DUE.holds("there is a block of " + sort, blocks.find());
        String found = blocks.group(1);
        DUE.holds("there is one block of " + sort, !blocks.find());
        return found;
    }

    private static String printedByExample(Path folder) throws Exception {
        PrintStream before = System.out;
        ByteArrayOutputStream printed = new ByteArrayOutputStream();
        try (URLClassLoader loader = new URLClassLoader(new URL[] {folder.toUri().toURL()})) {
            System.setOut(new PrintStream(printed, true, StandardCharsets.UTF_8));
            loader.loadClass("Example").getMethod("main", String[].class)
                    .invoke(null, (Object) new String[0]);
        } finally {
            System.setOut(before);
        }
        return printed.toString(StandardCharsets.UTF_8).replace(System.lineSeparator(), "\n");
    }

    private static void remove(Path folder) throws Exception {
        try (Stream<Path> files = Files.walk(folder)) {
            List<Path> last = files.sorted(Comparator.reverseOrder()).toList();
            for (Path file : last) {
                Files.delete(file);
            }
        }
    }

    private static void namesEveryCall(String readme) {
        for (String name : Calls.NAMES) {
            DUE.holds(name + " is told", readme.contains("`" + name + "("));
        }
    }

    private static void namesEveryTest(String readme) {
        for (File file : new File("src/test/java").listFiles()) {
            String name = file.getName().replace(".java", "");
            DUE.holds(name + " is told", readme.matches("(?s).*[ |]" + name + "[ ,].*"));
        }
    }
}
