import java.io.ByteArrayOutputStream;
import java.io.IOException;
import java.io.PrintStream;
import java.net.URL;
import java.net.URLClassLoader;
import java.nio.file.Files;
import java.nio.file.Path;
import java.util.ArrayList;
import java.util.List;
import java.util.regex.Matcher;
import java.util.regex.Pattern;
import java.util.spi.ToolProvider;

/** The example of README.md compiles, and prints what the comments behind its lines say. */
public final class RipeHoursReadmeTest {
    private static final Pattern BLOCK = Pattern.compile("(?s)```java\n(.*?)```");
    private static final Pattern PRINTED = Pattern.compile("println\\(.*\\); // (-?\\d+)");

    public static void main(String[] args) throws Exception {
        Matcher block = BLOCK.matcher(Files.readString(Path.of("README.md")));
        if (!block.find()) {
            fail("README.md has no example");
        }
        List<String> due = new ArrayList<>();
        Matcher line = PRINTED.matcher(block.group(1));
        while (line.find()) {
            due.add(line.group(1));
        }
        List<String> got = printedBy(block.group(1));
        if (due.isEmpty() || !got.equals(due)) {
            fail("the example prints " + got + ", README.md says " + due);
        }
        System.out.println("the example prints its " + due.size() + " lines");
    }

    private static void fail(String what) {
        System.out.println(what);
        System.exit(1);
    }

    private static List<String> printedBy(String program) throws Exception {
        Path folder = Files.createTempDirectory("readme");
        try {
            Path source = folder.resolve("Example.java");
            Files.writeString(source, program);
            int code = ToolProvider.findFirst("javac").orElseThrow().run(System.out, System.out, "-cp",
                System.getProperty("java.class.path"), "-d", folder.toString(), source.toString());
            if (code != 0) {
                fail("the example does not compile");
            }
            return printedByMain(folder);
        } finally {
            remove(folder);
        }
    }

    private static List<String> printedByMain(Path folder) throws Exception {
        PrintStream usual = System.out;
        ByteArrayOutputStream printed = new ByteArrayOutputStream();
        try (URLClassLoader loader = new URLClassLoader(new URL[] {folder.toUri().toURL()})) {
            System.setOut(new PrintStream(printed, true));
            loader.loadClass("Example").getMethod("main", String[].class).invoke(null, (Object) new String[0]);
        } finally {
            System.setOut(usual);
        }
        return printed.toString().lines().toList();
    }

    private static void remove(Path folder) throws IOException {
        for (String name : new String[] {"Example.java", "Example.class"}) {
            Files.deleteIfExists(folder.resolve(name));
        }
        Files.delete(folder);
    }
}
