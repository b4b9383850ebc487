import java.io.IOException;
import java.net.URL;
import java.net.URLClassLoader;
import java.nio.file.Files;
import java.nio.file.Path;
import java.util.ArrayList;
import java.util.List;
import java.util.regex.Matcher;
import java.util.regex.Pattern;
import java.util.stream.Stream;
import javax.tools.ToolProvider;

/** The Java that README.md shows compiles, and gives what the comments behind it say. */
public final class ReadmeTest {
    private static final Pattern ANSWER = Pattern.compile("(?:int|boolean) (\\w+) = .*; +// (-?\\d+|true|false)(?::.*)?");

    private ReadmeTest() { }

    public static void main(String[] args) throws IOException, ReflectiveOperationException {
        List<String> readme = Files.readAllLines(Path.of("README.md"));
        List<String> java = javaOf(readme);
        Path out = Files.createTempDirectory("readme");
        try {
            Check.same("what the Java of README.md gives", given(out, program(java)).toString(), due(java));
        } finally {
            Files.deleteIfExists(out.resolve("Readme.java"));
            Files.deleteIfExists(out.resolve("Readme.class"));
            Files.delete(out);
        }
        names(String.join("\n", readme));
        Check.end();
    }

    /** Each call and each test has its place there. */
    private static void names(String readme) throws IOException {
        for (String call : RulesTest.calls()) {
            Check.yes("README.md names " + call, readme.contains("`" + call + "`"));
        }
        try (Stream<Path> tests = Files.list(Path.of("src/test/java"))) {
            for (Path test : tests.toList()) {
                String name = test.getFileName().toString().replace(".java", "");
                Check.yes("README.md names " + name, readme.contains(name));
            }
        }
    }

    private static List<String> javaOf(List<String> readme) {
        List<String> lines = new ArrayList<>();
        boolean java = false;
        for (String line : readme) {
            if (line.startsWith("```")) {
                java = line.equals("```java");
            } else if (java) {
                lines.add(line);
            }
        }
        return lines;
    }

    /** A class with all Java of the README in a method, which returns what the answers are. */
    private static String program(List<String> lines) {
        StringBuilder all = new StringBuilder("public final class Readme {\n    public static String answers() {\n");
        all.append("StringBuilder all = new StringBuilder();\n");
        for (String line : lines) {
            all.append(line).append('\n');
            Matcher answer = ANSWER.matcher(line);
            if (answer.matches()) {
                all.append("all.append(\"" + answer.group(1) + " \" + " + answer.group(1) + " + \"\\n\");\n");
            }
        }
        return all.append("        return all.toString();\n    }\n}\n").toString();
    }

    /** What the comments say that the answers are. */
    private static String due(List<String> lines) {
        StringBuilder all = new StringBuilder();
        for (String line : lines) {
            Matcher answer = ANSWER.matcher(line);
            if (answer.matches()) {
                all.append(answer.group(1)).append(' ').append(answer.group(2)).append('\n');
            }
        }
        return all.toString();
    }

    private static Object given(Path out, String program) throws IOException, ReflectiveOperationException {
        Path file = out.resolve("Readme.java");
        Files.writeString(file, program);
        String path = System.getProperty("java.class.path");
        int code = ToolProvider.getSystemJavaCompiler().run(null, null, null, "-proc:none", "-cp", path, "-d", out.toString(), file.toString());
        if (code != 0) {
            return "does not compile";
        }
        try (URLClassLoader loader = new URLClassLoader(new URL[] {out.toUri().toURL()})) {
            return loader.loadClass("Readme").getMethod("answers").invoke(null);
        }
    }
}
