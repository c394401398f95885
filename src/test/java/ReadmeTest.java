import java.io.IOException;
import java.net.URL;
import java.net.URLClassLoader;
import java.nio.file.Files;
import java.nio.file.Path;
import java.util.ArrayList;
import java.util.List;
import java.util.regex.Matcher;
import java.util.regex.Pattern;
import javax.tools.ToolProvider;

/** What README.md shows as an example builds, and each call in it answers what stands behind it. */
public final class ReadmeTest {
    private static final Check CHECK = new Check("ReadmeTest");
    private static final Pattern BLOCK = Pattern.compile("(?s)```java\n(.*?)```");
    private static final Pattern CALL = Pattern.compile("(house\\.\\w+\\(.*\\));\\s*// (-?\\d+|AloneTogether\\.\\w+)(:.*)?");
    private static final String MAKES = "AloneTogether house = new AloneTogether();";

    public static void main(String[] args) throws IOException, ReflectiveOperationException {
        String readme = Files.readString(Path.of("README.md"));
        Matcher block = BLOCK.matcher(readme);
        CHECK.due("there is an example", block.find() ? 1 : 0, 1);
        for (block.reset(); block.find();) example(block.group(1).split("\n"));
        tests(readme);
        CHECK.end();
    }

    private static void example(String[] lines) throws IOException, ReflectiveOperationException {
        List<String> calls = new ArrayList<>();
        StringBuilder got = new StringBuilder(), due = new StringBuilder();
        CHECK.due("an example begins with a new object", lines[0].equals(MAKES) ? 1 : 0, 1);
        for (int i = 1; i < lines.length; i++) {
            if (lines[i].isBlank() || lines[i].startsWith("// ")) continue;
            Matcher call = CALL.matcher(lines[i]);
            boolean tells = call.matches();
            CHECK.due("it is told what this answers: " + lines[i], tells ? 1 : 0, 1);
            if (!tells) continue;
            got.append("got[" + calls.size() + "] = " + call.group(1) + ";\n");
            due.append(call.group(2) + ", ");
            calls.add(call.group(1));
        }
        long[][] answers = answers(MAKES + "\nlong[] got = new long[" + calls.size() + "];\n" + got
            + "return new long[][] {got, {" + due + "}};");
        for (int i = 0; i < answers[0].length; i++) CHECK.due("README.md: " + calls.get(i), answers[0][i], answers[1][i]);
    }

    private static long[][] answers(String body) throws IOException, ReflectiveOperationException {
        Path folder = Files.createTempDirectory("readme"), source = folder.resolve("Example.java");
        try {
            Files.writeString(source, "public final class Example { public static long[][] answers() {\n" + body + "\n} }");
            int failed = ToolProvider.getSystemJavaCompiler().run(null, null, null, "-cp", System.getProperty("java.class.path"),
                "-d", folder.toString(), source.toString());
            CHECK.due("the example of README.md builds", failed, 0);
            if (failed != 0) return new long[][] {{}, {}};
            try (URLClassLoader loader = new URLClassLoader(new URL[] {folder.toUri().toURL()})) {
                return (long[][]) loader.loadClass("Example").getMethod("answers").invoke(null);
            }
        } finally {
            Files.deleteIfExists(folder.resolve("Example.class"));
            Files.deleteIfExists(source);
            Files.deleteIfExists(folder);
        }
    }

    /** Each test of the project is named, and each that is named is there. */
    private static void tests(String readme) throws IOException {
        try (var files = Files.list(Path.of("src/test/java"))) {
            for (Path file : files.toList()) {
                String name = file.getFileName().toString().replace(".java", "");
                if (name.endsWith("Test")) CHECK.due(name + " is named", readme.contains("| `" + name + "` |") ? 1 : 0, 1);
            }
        }
        Matcher named = Pattern.compile("`(\\w+Test)`").matcher(readme);
        while (named.find()) {
            boolean isThere = Files.exists(Path.of("src/test/java", named.group(1) + ".java"));
            CHECK.due(named.group(1) + " is there", isThere ? 1 : 0, 1);
        }
    }
}
