import java.io.IOException;
import java.net.URL;
import java.net.URLClassLoader;
import java.nio.file.Files;
import java.nio.file.Path;
import java.util.ArrayList;
import java.util.List;
import java.util.regex.Matcher;
import java.util.regex.Pattern;
import javax.tools.JavaCompiler;
import javax.tools.ToolProvider;

/** Compiles and runs the lines of Java in README.md, and compares the answers that stand there behind "// =". */
public final class ReadmeTest {
    private static final Path README = Path.of("README.md");
    private static final Pattern ANSWERED = Pattern.compile("\\w+ (\\w+) = .*; *// = ([^ :]+)(: .*)?");
    private static final String NAME = "ReadmeLines";

    private final List<String> calls = new ArrayList<>();
    private final List<String> dues = new ArrayList<>();
    private final StringBuilder program = new StringBuilder();

    private void read() throws IOException {
        program.append("public final class " + NAME + " {\npublic static void run(java.util.List<String> got) {\n");
        boolean isJava = false;
        for (String line : Files.readAllLines(README)) {
            if (line.startsWith("```")) {
                isJava = line.equals("```java");
                program.append(isJava ? "{\n" : "}\n");
            } else if (isJava) {
                program.append(line).append('\n');
                noteAnswer(line);
            }
        }
        program.append("}\n}\n");
    }

    private void noteAnswer(String line) {
        Matcher matcher = ANSWERED.matcher(line);
        Check.holds("an answer that is not read: " + line, matcher.matches() || !line.contains("// ="));
        if (!matcher.matches()) return;
        calls.add(line);
        dues.add(matcher.group(2));
        program.append("got.add(\"\" + " + matcher.group(1) + ");\n");
    }

    private List<String> run() throws IOException, ReflectiveOperationException {
        List<String> got = new ArrayList<>();
        Path place = Files.createTempDirectory("readme");
        Path source = place.resolve(NAME + ".java");
        Files.writeString(source, program);
        JavaCompiler compiler = ToolProvider.getSystemJavaCompiler();
        String classes = System.getProperty("java.class.path");
        int code = compiler.run(null, null, null, "-cp", classes, "-d", place.toString(), source.toString());
        Check.same("README.md compiles, answered by javac's code:", code, 0);
        if (code == 0) {
            try (URLClassLoader loader = new URLClassLoader(new URL[] {place.toUri().toURL()})) {
                loader.loadClass(NAME).getMethod("run", List.class).invoke(null, got);
            }
        }
        Files.deleteIfExists(place.resolve(NAME + ".class"));
        Files.delete(source);
        Files.delete(place);
        return got;
    }

    private void compare(List<String> got) {
        Check.same("answers in README.md", got.size(), dues.size());
        for (int index = 0; index < got.size(); index++) {
            Check.holds("README.md has '" + calls.get(index).strip() + "', the answer is " + got.get(index),
                    got.get(index).equals(dues.get(index)));
        }
    }

    public static void main(String[] args) throws IOException, ReflectiveOperationException {
        ReadmeTest test = new ReadmeTest();
        test.read();
        Check.holds("README.md tells how to run the tests", Files.readString(README).contains("bash .ci/run"));
        test.compare(test.run());
        Check.end();
    }
}
