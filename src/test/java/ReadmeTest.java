import java.net.URL;
import java.net.URLClassLoader;
import java.nio.file.Files;
import java.nio.file.Path;
import java.util.regex.Matcher;
import java.util.regex.Pattern;
import javax.tools.ToolProvider;

/** Runs the examples of README.md: each call there answers what is written behind it. */
public final class ReadmeTest {
    private static final Pattern BLOCK = Pattern.compile("(?s)```java\n(.*?)```");
    private static final Pattern ANSWER = Pattern.compile("(?:int (\\w+) = )?(\\w.*\\));\\s*// (-?\\d+|true|false)\\b.*");
    private static final int LEAST_ANSWERS = 36;

    private static final StringBuilder MEMBERS = new StringBuilder();
    private static final StringBuilder STEPS = new StringBuilder();
    private static int answers = 0;

    public static void main(String[] args) throws Exception {
        Matcher block = BLOCK.matcher(Files.readString(Path.of("README.md")));
        while (block.find()) {
            if (block.group(1).startsWith("static ")) {
                MEMBERS.append(block.group(1));
            } else {
                block.group(1).lines().forEach(ReadmeTest::take);
            }
        }
        Due.is("README.md has answers", answers >= LEAST_ANSWERS, true);
        run("public final class Readme {\n" + MEMBERS + "public static void main(String[] args) {\n" + STEPS + "}\n}\n");
        Due.done();
    }

    private static void take(String line) {
        Matcher m = ANSWER.matcher(line);
        if (!m.matches()) {
            STEPS.append(line).append('\n');
            return;
        }
        answers++;
        String got = m.group(2);
        if (m.group(1) != null) {
            STEPS.append("int ").append(m.group(1)).append(" = ").append(got).append(";\n");
            got = m.group(1);
        }
        String label = line.replaceAll("\\s*//.*", "").replace("\"", "'");
        STEPS.append("ReadmeTest.due(\"").append(label).append("\", ").append(got).append(", ")
            .append(m.group(3)).append(");\n");
    }

    public static void due(String call, int got, int want) {
        Due.is("README.md: " + call, got, want);
    }

    public static void due(String call, boolean got, boolean want) {
        Due.is("README.md: " + call, got, want);
    }

    /** In a loader below the one of this class, so that both count by the same Due. */
    private static void run(String program) throws Exception {
        Path dir = Files.createTempDirectory("readme");
        Path source = Files.writeString(dir.resolve("Readme.java"), program);
        String path = System.getProperty("java.class.path");
        int failed = ToolProvider.getSystemJavaCompiler().run(null, null, null,
            "-proc:none", "-cp", path, "-d", dir.toString(), source.toString());
        Due.is("README.md compiles", failed, 0);
        if (failed == 0) {
            try (URLClassLoader loader = new URLClassLoader(new URL[] {dir.toUri().toURL()})) {
                loader.loadClass("Readme").getMethod("main", String[].class).invoke(null, (Object) new String[0]);
            }
        }
        for (String name : new String[] {"Readme.java", "Readme.class", ""}) {
            Files.deleteIfExists(dir.resolve(name));
        }
    }
}
