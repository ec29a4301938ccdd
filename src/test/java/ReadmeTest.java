import java.io.ByteArrayOutputStream;
import java.io.PrintStream;
import java.lang.reflect.Method;
import java.lang.reflect.Modifier;
import java.net.URL;
import java.net.URLClassLoader;
import java.nio.file.Files;
import java.nio.file.Path;
import java.util.Comparator;
import java.util.List;
import java.util.stream.Stream;
import javax.tools.ToolProvider;

/** README.md tells the truth: its program prints what it says, and its table names every call of the face. */
public final class ReadmeTest {
    private static final Due due = new Due();

    private ReadmeTest() {
    }

    public static void main(String[] args) throws Exception {
        String readme = Files.readString(Path.of("README.md"));
        due.is("what the example prints", printed(block(readme, "java")), block(readme, "text"));
        for (Method method : BonusLadder.class.getDeclaredMethods()) {
            if (Modifier.isPublic(method.getModifiers())) {
                due.holds("the table names " + method.getName(), named(readme, method.getName()));
            }
        }
        due.end("ReadmeTest");
    }

    /** The first block of that kind. */
    private static String block(String readme, String kind) {
        int start = readme.indexOf("```" + kind + "\n");
        int end = readme.indexOf("\n```\n", start);
        return start < 0 || end < 0 ? "" : readme.substring(start + kind.length() + 4, end + 1);
    }

    private static boolean named(String readme, String name) {
        return readme.lines().anyMatch(line -> line.startsWith("| ") && line.contains("`" + name + "`"));
    }

    private static String printed(String program) throws Exception {
        Path out = Files.createTempDirectory("example");
        PrintStream usual = System.out;
        ByteArrayOutputStream bytes = new ByteArrayOutputStream();
        try (URLClassLoader loader = new URLClassLoader(new URL[] {out.toUri().toURL()})) {
            Path source = Files.writeString(out.resolve("Example.java"), program);
            List<String> told = List.of("-proc:none", "-cp", System.getProperty("java.class.path"), "-d", out.toString(),
                    source.toString());
            due.is("the example compiles",
                    ToolProvider.getSystemJavaCompiler().run(null, null, null, told.toArray(new String[0])), 0);
            System.setOut(new PrintStream(bytes, true));
            loader.loadClass("Example").getMethod("main", String[].class).invoke(null, (Object) new String[0]);
        } finally {
            System.setOut(usual);
            try (Stream<Path> all = Files.walk(out)) {
                all.sorted(Comparator.reverseOrder()).forEach(path -> path.toFile().delete());
            }
        }
        return bytes.toString().replace("\r\n", "\n");
    }
}
