import java.net.URL;
import java.net.URLClassLoader;
import java.nio.file.Files;
import java.nio.file.Path;
import java.util.ArrayList;
import java.util.List;
import java.util.regex.Matcher;
import java.util.regex.Pattern;
import javax.tools.ToolProvider;

/** The calls that README.md shows are compiled and made, and held against the answers told there. */
public final class ReadmeTest {
    private static final Check CHECK = new Check("readme");
    private static final Pattern BLOCK = Pattern.compile("```java\n(.*?)```", Pattern.DOTALL);
    private static final Pattern CALL = Pattern.compile("(desk\\..*\\)); +// (-?\\d+)(:.*)?");

    public static void main(String[] args) throws Exception {
        Matcher block = BLOCK.matcher(Files.readString(Path.of("README.md")));
        CHECK.due("an example", block.find() ? 1 : 0, 1);
        List<String> calls = new ArrayList<>();
        List<Long> told = new ArrayList<>();
        for (String line : block.group(1).split("\n")) {
            Matcher call = CALL.matcher(line);
            if (call.matches()) {
                calls.add(call.group(1));
                told.add(Long.parseLong(call.group(2)));
            } else {
                CHECK.due("a line without an answer", line, "MidiDesk desk = new MidiDesk();");
            }
        }
        CHECK.due("there are calls", calls.isEmpty() ? 0 : 1, 1);
        long[] answers = answers(calls);
        for (int i = 0; i < answers.length; i++) {
            CHECK.due(calls.get(i), answers[i], told.get(i));
        }
        CHECK.close();
    }

    private static long[] answers(List<String> calls) throws Exception {
        Path folder = Files.createTempDirectory("readme");
        Path source = folder.resolve("Example.java");
        Path compiled = folder.resolve("Example.class");
        Files.writeString(source, "public final class Example {\n"
                + "public static long[] answers() {\nMidiDesk desk = new MidiDesk();\n"
                + "return new long[] {\n" + String.join(",\n", calls) + "\n};\n}\n}\n");
        try (URLClassLoader loader = new URLClassLoader(new URL[] {folder.toUri().toURL()})) {
            int code = ToolProvider.getSystemJavaCompiler().run(null, null, null, "-cp",
                    System.getProperty("java.class.path"), "-d", folder.toString(), source.toString());
            CHECK.due("the example compiles", code, 0);
            return (long[]) loader.loadClass("Example").getMethod("answers").invoke(null);
        } finally {
            Files.deleteIfExists(compiled);
            Files.deleteIfExists(source);
            Files.deleteIfExists(folder);
        }
    }
}
