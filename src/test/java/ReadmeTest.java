import java.io.IOException;
import java.net.URL;
import java.net.URLClassLoader;
import java.nio.file.Files;
import java.nio.file.Path;
import java.util.Map;
import java.util.TreeMap;
import java.util.regex.Matcher;
import java.util.regex.Pattern;
import javax.tools.ToolProvider;

/** README.md's examples, compiled as they stand there: each call answers the number behind it. */
public final class ReadmeTest {
    private static final int LEAST = 25;

    public static void main(String[] args) throws IOException, ReflectiveOperationException {
        String readme = Files.readString(Path.of("README.md"));
        Due.due("README.md names the command that runs the tests", readme.contains("```sh\n.ci/run\n```"));
        Map<String, long[]> answers = answers(program(readme));
        Due.due("README.md shows at least " + LEAST + " answers, not " + answers.size(), answers.size() >= LEAST);
        answers.forEach((name, answer) -> Due.due("README.md: " + name, answer[0], answer[1]));
        Due.end("ReadmeTest");
    }

    /** The examples as one method; behind each line that tells its answer the two are noted. */
    private static String program(String readme) {
        StringBuilder lines = new StringBuilder();
        Matcher block = Pattern.compile("(?s)```java\n(.*?)```").matcher(readme);
        while (block.find()) {
            for (String line : block.group(1).split("\n")) {
                lines.append(line).append('\n');
                Matcher answer = Pattern.compile("(?:int|long) (\\w+) = .*; *// (-?\\d+)(?::.*)?").matcher(line);
                if (answer.matches()) {
                    String name = answer.group(1);
                    lines.append("answers.put(\"" + name + "\", new long[] {" + name + ", " + answer.group(2) + "L});\n");
                }
            }
        }
        return "public final class ReadmeExample {\n"
            + "public static void run(java.util.Map<String, long[]> answers) {\n" + lines + "}\n}\n";
    }

    private static Map<String, long[]> answers(String program) throws IOException, ReflectiveOperationException {
        Map<String, long[]> answers = new TreeMap<>();
        Path room = Files.createTempDirectory("readme");
        Path source = room.resolve("ReadmeExample.java");
        try {
            Files.writeString(source, program);
            int failed = ToolProvider.getSystemJavaCompiler().run(null, null, null,
                "-cp", System.getProperty("java.class.path"), "-d", room.toString(), source.toString());
            Due.due("README.md's examples compile", failed == 0);
            if (failed == 0) {
                run(room, answers);
            }
        } finally {
            Files.deleteIfExists(room.resolve("ReadmeExample.class"));
            Files.deleteIfExists(source);
            Files.deleteIfExists(room);
        }
        return answers;
    }

    private static void run(Path room, Map<String, long[]> answers) throws IOException, ReflectiveOperationException {
        try (URLClassLoader loader = new URLClassLoader(new URL[] {room.toUri().toURL()})) {
            loader.loadClass("ReadmeExample").getMethod("run", Map.class).invoke(null, answers);
        }
    }
}
