import java.io.ByteArrayOutputStream;
import java.io.File;
import java.io.IOException;
import java.io.PrintStream;
import java.net.URL;
import java.net.URLClassLoader;
import java.nio.file.Files;
import java.nio.file.Path;
import java.util.ArrayList;
import java.util.List;
import javax.tools.ToolProvider;

/** The example of README.md prints what README.md says, and every file of the tests is named there. */
public final class ReadmeTest {
    private final Expect expect = new Expect();
    private final String readme;

    private ReadmeTest(String readme) {
        this.readme = readme;
    }

    public static void main(String[] arguments) throws Exception {
        ReadmeTest test = new ReadmeTest(Files.readString(Path.of("README.md")));
        test.example();
        test.names();
        test.expect.end();
    }

    private void example() throws Exception {
        expect.part("The example of README.md");
        Path folder = Files.createTempDirectory("readme");
        try {
            Path source = Files.writeString(folder.resolve("Example.java"), blockBehind("```java\n"));
            String path = System.getProperty("java.class.path");
            int result = ToolProvider.getSystemJavaCompiler()
                    .run(null, null, null, "-cp", path, "-d", folder.toString(), source.toString());
            expect.same("javac", 0, result);
            if (result == 0) {
                expect.same("what it prints", blockBehind("It prints:\n\n```\n"), printed(folder));
            }
        } finally {
            delete(folder);
        }
    }

    private String blockBehind(String beginning) {
        int start = readme.indexOf(beginning) + beginning.length();
        return readme.substring(start, readme.indexOf("```\n", start));
    }

    private static String printed(Path folder) throws Exception {
        PrintStream usual = System.out;
        ByteArrayOutputStream bytes = new ByteArrayOutputStream();
        try (URLClassLoader loader = new URLClassLoader(new URL[] {folder.toUri().toURL()});
                PrintStream stream = new PrintStream(bytes)) {
            System.setOut(stream);
            loader.loadClass("Example").getMethod("main", String[].class).invoke(null, (Object) new String[0]);
        } finally {
            System.setOut(usual);
        }
        return bytes.toString().replace(System.lineSeparator(), "\n");
    }

    private static void delete(Path folder) throws IOException {
        for (File file : files(folder)) {
            Files.delete(file.toPath());
        }
        Files.delete(folder);
    }

    private void names() {
        expect.part("The tests in README.md");
        List<File> tests = files(Path.of("src/test/java"));
        expect.same("there are tests", true, tests.size() > 1);
        for (File test : tests) {
            String name = test.getName().replace(".java", "");
            expect.same(name + " is named", true, readme.contains("`" + name + "`"));
        }
    }

    private static List<File> files(Path folder) {
        File[] files = folder.toFile().listFiles();
        return files == null ? new ArrayList<>() : List.of(files);
    }
}
