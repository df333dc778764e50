import java.io.ByteArrayOutputStream;
import java.io.File;
import java.io.IOException;
import java.io.PrintStream;
import java.lang.reflect.Method;
import java.lang.reflect.Modifier;
import java.net.URL;
import java.net.URLClassLoader;
import java.nio.file.Files;
import java.nio.file.Path;
import javax.tools.JavaCompiler;
import javax.tools.ToolProvider;

/** What README.md says is so: its example compiles and runs, and its tables name every call and every test. */
public final class ReadmeTest {
    private static final String FENCE = "```";

    private ReadmeTest() { }

    public static void main(String[] args) throws Exception {
        String readme = Files.readString(Path.of("README.md"));
        namesAllCalls(readme);
        namesAllTests(readme);
        String printed = run(example(readme));
        Expect.same("three shards and one more line: " + printed, printed.lines().count(), 4);
        Expect.yes("the last one: " + printed, printed.strip().endsWith("stale: true"));
        Expect.close("ReadmeTest");
    }

    private static void namesAllCalls(String readme) {
        for (Method method : BuildGrid.class.getDeclaredMethods()) {
            if (Modifier.isPublic(method.getModifiers())) {
                Expect.yes("README.md names " + method.getName(), readme.contains("`" + method.getName() + "`"));
            }
        }
    }

    private static void namesAllTests(String readme) {
        File[] files = new File("src/test/java").listFiles();
        Expect.yes("there are tests", files != null && files.length > 0);
        for (File file : files) {
            String name = file.getName().replace(".java", "");
            Expect.yes("README.md names " + name, readme.contains("`" + name + "`"));
        }
    }

    private static String example(String readme) {
        int start = readme.indexOf(FENCE + "java");
        int end = readme.indexOf(FENCE, start + FENCE.length());
        Expect.yes("README.md has an example", start >= 0 && end > start);
        return readme.substring(start + (FENCE + "java").length(), end);
    }

    private static String run(String example) throws Exception {
        Path folder = Files.createTempDirectory("readme");
        Path source = folder.resolve("Example.java");
        Path compiled = folder.resolve("Example.class");
        PrintStream out = System.out;
        ByteArrayOutputStream printed = new ByteArrayOutputStream();
        try {
            Files.writeString(source, "public final class Example { public static void run() {" + example + "} }");
            JavaCompiler compiler = ToolProvider.getSystemJavaCompiler();
            Expect.same("the example compiles", compiler.run(null, null, null, "-cp",
                System.getProperty("java.class.path"), "-d", folder.toString(), source.toString()), 0);
            try (URLClassLoader loader = new URLClassLoader(new URL[] {folder.toUri().toURL()})) {
                System.setOut(new PrintStream(printed));
                loader.loadClass("Example").getMethod("run").invoke(null);
            }
        } finally {
            System.setOut(out);
            delete(source, compiled, folder);
        }
        return printed.toString();
    }

    private static void delete(Path... paths) throws IOException {
        for (Path path : paths) {
            Files.deleteIfExists(path);
        }
    }
}
