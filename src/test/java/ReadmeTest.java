import java.io.IOException;
import java.lang.reflect.Method;
import java.lang.reflect.Modifier;
import java.net.URL;
import java.net.URLClassLoader;
import java.nio.file.Files;
import java.nio.file.Path;
import java.util.ArrayList;
import java.util.List;
import java.util.regex.Matcher;
import java.util.regex.Pattern;
import javax.tools.ToolProvider;

/** That README.md's example is Java and answers what it says, and that it tells all calls and how to run the tests. */
public final class ReadmeTest {
    private static final Path README = Path.of("README.md");
    private static final Pattern BLOCK = Pattern.compile("(?s)```java\n(.*?)```");
    /** A call on a line of its own, perhaps kept, and its answer behind it. */
    private static final Pattern ANSWERED =
        Pattern.compile("(?<kept>int \\w+ = )?(?<call>x\\.\\w+\\([^;]*\\)); +// (?<answer>-?\\d+)(:.*)?");
    /** A loop's own line tells no answer: there would be many. */
    private static final Pattern IN_LOOP = Pattern.compile(" {4}x\\.\\w+\\([^;]*\\);");

    private ReadmeTest() {
    }

    public static void main(String[] args) throws Exception {
        String readme = Files.readString(README);
        lookAtExample(readme);
        lookForCalls(readme);
        lookForCommand(readme);
        lookForTests(readme);
        Due.end("ReadmeTest");
    }

    private static void lookAtExample(String readme) throws Exception {
        List<String> calls = new ArrayList<>();
        List<Long> due = new ArrayList<>();
        StringBuilder body = new StringBuilder();
        Matcher block = BLOCK.matcher(readme);
        while (block.find()) {
            for (String line : block.group(1).split("\n")) {
                body.append(statement(line, calls, due)).append('\n');
            }
        }
        Due.holds("README.md has an example: " + calls.size(), calls.size() > 30);
        List<Long> answers = run(body.toString());
        Due.is("README.md's calls with an answer", answers.size(), due.size());
        for (int i = 0; i < Math.min(answers.size(), due.size()); i++) {
            Due.is("README.md: " + calls.get(i), answers.get(i), due.get(i));
        }
    }

    private static String statement(String line, List<String> calls, List<Long> due) {
        Matcher answered = ANSWERED.matcher(line);
        if (!answered.matches()) {
            Due.holds("README.md tells the answer of: " + line,
                IN_LOOP.matcher(line).matches() || !line.contains("x."));
            return line;
        }
        calls.add(answered.group("call"));
        due.add(Long.parseLong(answered.group("answer")));
        String kept = answered.group("kept");
        return kept == null
            ? "answers.add((long) " + answered.group("call") + ");"
            : kept + answered.group("call") + "; answers.add((long) "
                + kept.substring(4, kept.length() - 3) + ");";
    }

    /** Compiled and run as whoever copies it would. */
    private static List<Long> run(String body) throws Exception {
        Path room = Files.createTempDirectory("readme");
        Path source = room.resolve("ReadmeExample.java");
        Files.writeString(source, "public final class ReadmeExample {\n"
            + "public static void answer(java.util.List<Long> answers) {\n" + body + "}\n}\n");
        int failed = ToolProvider.getSystemJavaCompiler().run(null, null, null,
            "-cp", System.getProperty("java.class.path"), "-d", room.toString(), source.toString());
        Due.is("javac of README.md's example", failed, 0);
        List<Long> answers = new ArrayList<>();
        if (failed == 0) {
            try (URLClassLoader loader = new URLClassLoader(new URL[] {room.toUri().toURL()})) {
                loader.loadClass("ReadmeExample").getMethod("answer", List.class).invoke(null, answers);
            }
        }
        remove(room);
        return answers;
    }

    private static void remove(Path room) throws IOException {
        try (var files = Files.list(room)) {
            for (Path file : files.toList()) {
                Files.delete(file);
            }
        }
        Files.delete(room);
    }

    private static void lookForCalls(String readme) {
        String table = readme.substring(Math.max(0, readme.indexOf("## The calls")));
        for (Method method : AfterEachVowel.class.getDeclaredMethods()) {
            if (Modifier.isPublic(method.getModifiers())) {
                Due.holds("README.md's table has " + method.getName(), table.contains("`" + method.getName() + "`"));
            }
        }
    }

    private static void lookForCommand(String readme) {
        Due.holds("README.md tells the command", readme.contains("\n    .ci/run\n"));
        Due.holds("the command is there", Files.isExecutable(Path.of(".ci/run")));
    }

    private static void lookForTests(String readme) throws IOException {
        try (var files = Files.list(Path.of("src/test/java"))) {
            for (Path file : files.toList()) {
                String name = file.getFileName().toString().replaceAll("EdgesOf\\w+Test", "EdgesOf*Test");
                if (name.endsWith("Test.java")) {
                    Due.holds("README.md tells of " + name, readme.contains("`src/test/java/" + name + "`"));
                }
            }
        }
    }
}
