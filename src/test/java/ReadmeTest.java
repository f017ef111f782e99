import java.io.ByteArrayOutputStream;
import java.io.File;
import java.io.IOException;
import java.io.PrintStream;
import java.lang.reflect.Method;
import java.lang.reflect.Modifier;
import java.nio.charset.StandardCharsets;
import java.nio.file.Files;
import java.nio.file.Path;

/** README.md is there, names what it has to name, and its example runs and prints what is written there. */
final class ReadmeTest {
    private static final Path README = Path.of("README.md");
    private static final Path TESTS = Path.of("src", "test", "java");

    public static void main(String[] args) throws IOException {
        Due.same("README.md is there", Files.isRegularFile(README), true);
        String readme = Files.isRegularFile(README) ? Files.readString(README) : "";
        names(readme, "\n```sh\n.ci/run\n```\n");
        Due.same("the command can be run", Files.isExecutable(Path.of(".ci", "run")), true);
        names(readme, "`new TruthBench()`");
        for (Method m : TruthBench.class.getDeclaredMethods()) {
            if (Modifier.isPublic(m.getModifiers())) {
                names(readme, "`" + m.getName() + "(");
                for (Class<?> thrown : m.getExceptionTypes()) {
                    names(readme, "| `" + thrown.getSimpleName() + "`");
                }
            }
        }
        for (File test : TESTS.toFile().listFiles((folder, name) -> name.endsWith("Test.java"))) {
            names(readme, "`" + test.getName().replace(".java", "") + "`");
        }
        names(readme, "```java\n" + Files.readString(TESTS.resolve("Example.java")) + "```\n");
        names(readme, "```text\n" + printedByExample() + "```\n");
        Due.finish("ReadmeTest");
    }

    private static void names(String readme, String what) {
        Due.same("README.md names " + what, readme.contains(what), true);
    }

    private static String printedByExample() {
        PrintStream out = System.out;
        ByteArrayOutputStream printed = new ByteArrayOutputStream();
        System.setOut(new PrintStream(printed, true, StandardCharsets.ISO_8859_1));
        Example.main(new String[0]);
        System.setOut(out);
        return printed.toString(StandardCharsets.ISO_8859_1).replace(System.lineSeparator(), "\n");
    }
}
