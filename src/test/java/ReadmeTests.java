import java.io.ByteArrayOutputStream;
import java.io.IOException;
import java.io.PrintStream;
import java.net.URL;
import java.net.URLClassLoader;
import java.nio.charset.StandardCharsets;
import java.nio.file.Files;
import java.nio.file.Path;
import java.util.Comparator;
import java.util.List;
import java.util.regex.Matcher;
import java.util.regex.Pattern;
import java.util.stream.Stream;
import javax.tools.ToolProvider;

/** README.md's program compiles, and prints what README.md says; every call has its place there. */
public final class ReadmeTests {
    private static final Check CHECK = new Check();
    private static final Path README = Path.of(System.getProperty("tapehouse.readme", "README.md"));

    public static void main(String[] args) throws Exception {
        String readme = Files.readString(README);
        everyCall(readme);
        Path out = Files.createTempDirectory("readme");
        try {
            example(block(readme, "java"), block(readme, "text"), out);
        } finally {
            remove(out);
        }
        CHECK.end();
    }

    private static String block(String readme, String language) {
        Matcher matcher = Pattern.compile("(?s)```" + language + "\n(.*?)```").matcher(readme);
        CHECK.due("README.md has a block of " + language, matcher.find(), true);
        return matcher.group(1);
    }

    private static void everyCall(String readme) {
        for (String name : LanguageTests.names()) {
            CHECK.due("README.md tells of " + name, readme.contains("`" + name + "`"), true);
        }
    }

    private static void example(String program, String prints, Path out) throws Exception {
        Path source = out.resolve("Example.java");
        Files.writeString(source, program);
        String classes = System.getProperty("java.class.path");
        int failed = ToolProvider.getSystemJavaCompiler().run(null, null, null, "-cp", classes, "-d", out.toString(), source.toString());
        CHECK.due("README.md's program compiles", failed, 0);
        if (failed != 0) {
            return;
        }
        List<String> want = prints.lines().toList();
        List<String> got = printed(out).lines().toList();
        CHECK.due("lines that it prints", got.size(), want.size());
        for (int i = 0; i < Math.min(got.size(), want.size()); i++) {
            CHECK.due("README.md says '" + want.get(i) + "', the program '" + got.get(i) + "'", got.get(i).equals(want.get(i)), true);
        }
    }

    private static String printed(Path out) throws Exception {
        ByteArrayOutputStream bytes = new ByteArrayOutputStream();
        PrintStream before = System.out;
        try (URLClassLoader loader = new URLClassLoader(new URL[] {out.toUri().toURL()}, ReadmeTests.class.getClassLoader());
                PrintStream instead = new PrintStream(bytes, true, StandardCharsets.UTF_8)) {
            System.setOut(instead);
            loader.loadClass("Example").getMethod("main", String[].class).invoke(null, (Object) new String[0]);
        } finally {
            System.setOut(before);
        }
        return bytes.toString(StandardCharsets.UTF_8);
    }

    private static void remove(Path directory) throws IOException {
        try (Stream<Path> paths = Files.walk(directory)) {
            for (Path path : paths.sorted(Comparator.reverseOrder()).toList()) {
                Files.delete(path);
            }
        }
    }
}
