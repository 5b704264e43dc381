import java.io.IOException;
import java.net.URL;
import java.net.URLClassLoader;
import java.nio.file.Files;
import java.nio.file.Path;
import java.util.ArrayList;
import java.util.List;
import java.util.function.Supplier;
import java.util.regex.Matcher;
import java.util.regex.Pattern;
import javax.tools.ToolProvider;

/** That the example of README.md compiles, and that its calls answer what is written behind them. */
public final class ReadmeTest {
    private static final Check CHECK = new Check("ReadmeTest");
    private static final Pattern EXAMPLE = Pattern.compile("(?s)```java\n(.*?)```");
    private static final Pattern ANSWERED = Pattern.compile("(acts\\..*?\\)); *// (-?\\d+|true|false): .*");

    private ReadmeTest() {
    }

    public static void main(String[] args) throws IOException, ReflectiveOperationException {
        Matcher example = EXAMPLE.matcher(Files.readString(Path.of("README.md")));
        CHECK.holds("there is an example", example.find());
        List<String> calls = new ArrayList<>();
        List<String> due = new ArrayList<>();
        StringBuilder body = new StringBuilder();
        for (String line : example.group(1).split("\n")) {
            Matcher answered = ANSWERED.matcher(line);
            if (answered.matches()) {
                calls.add(answered.group(1));
                due.add(answered.group(2));
                body.append("answers.add(String.valueOf(").append(answered.group(1)).append("));\n");
            } else {
                CHECK.holds("makes something, or tells its answer: " + line, !line.startsWith("acts."));
                body.append(line).append("\n");
            }
        }
        CHECK.holds("some answers are told", !calls.isEmpty());
        List<String> got = answersOf(body.toString());
        for (int i = 0; i < calls.size(); i++) {
            CHECK.equal(calls.get(i), due.get(i), got.get(i));
        }
        CHECK.end();
    }

    private static List<String> answersOf(String body) throws IOException, ReflectiveOperationException {
        Path place = Files.createTempDirectory("readme");
        Path text = place.resolve("Example.java");
        Path made = place.resolve("Example.class");
        Files.writeString(text, "public class Example implements java.util.function.Supplier<java.util.List<String>> {\n"
                + "public java.util.List<String> get() {\n"
                + "java.util.List<String> answers = new java.util.ArrayList<>();\n" + body + "return answers;\n}\n}\n");
        int how = ToolProvider.getSystemJavaCompiler().run(null, null, null,
                "-cp", System.getProperty("java.class.path"), "-d", place.toString(), text.toString());
        CHECK.equal("compiling the example", 0, how);
        try (URLClassLoader loader = new URLClassLoader(new URL[] {place.toUri().toURL()})) {
            Object example = loader.loadClass("Example").getDeclaredConstructor().newInstance();
            List<String> answers = new ArrayList<>();
            for (Object answer : (List<?>) ((Supplier<?>) example).get()) {
                answers.add(answer.toString());
            }
            return answers;
        } finally {
            Files.deleteIfExists(made);
            Files.deleteIfExists(text);
            Files.deleteIfExists(place);
        }
    }
}
