import java.io.File;
import java.io.IOException;
import java.lang.reflect.Method;
import java.lang.reflect.Modifier;
import java.net.URL;
import java.net.URLClassLoader;
import java.nio.file.Files;
import java.nio.file.Path;
import java.util.ArrayList;
import java.util.List;
import java.util.Set;
import java.util.TreeSet;
import java.util.regex.Matcher;
import java.util.regex.Pattern;
import java.util.stream.Stream;
import javax.tools.ToolProvider;

/** Runs the Java that README.md shows, as it stands there, and compares the answers that it names. */
public final class ReadmeTest {
    private static final Check check = new Check("ReadmeTest");
    private static final int MOST_CALLS = 512;
    private static final Pattern CALL = Pattern.compile(" *(\\w+\\.(\\w+)\\(.*\\)); *(?://(?: (-?[0-9]+|true|false):)?.*)?");
    private static final Pattern TEST = Pattern.compile("^\\| `(\\w+Test)` \\|.*\\|$", Pattern.MULTILINE);

    private final StringBuilder helpers = new StringBuilder();
    private final StringBuilder body = new StringBuilder();
    private final List<String> calls = new ArrayList<>();
    private final List<Long> named = new ArrayList<>();
    private final Set<String> shown = new TreeSet<>();

    public static void main(String[] args) throws Exception {
        Path home = Path.of(System.getProperty("postring.home", "."));
        String page = Files.readString(home.resolve("README.md"));
        ReadmeTest test = new ReadmeTest();
        test.takeBlocks(page);
        test.compareAnswers();
        test.lookForWholeFace();
        lookForTests(page, home);
        check.due("it says how its tests are run", page.contains("```sh\nbash .ci/run\n```"), true);
        check.due(".ci/run stands", Files.isExecutable(home.resolve(".ci/run")), true);
        check.close();
    }

    /** Blocks of helpers begin with a static method; all others are one run of statements. */
    private void takeBlocks(String page) {
        String[] parts = page.split("```java\n");
        for (int i = 1; i < parts.length; i++) {
            String block = parts[i].substring(0, parts[i].indexOf("```"));
            if (block.startsWith("static ")) {
                helpers.append(block);
            } else {
                block.lines().forEach(this::takeLine);
            }
        }
    }

    private void takeLine(String line) {
        Matcher call = CALL.matcher(line);
        if (!call.matches()) {
            body.append(line).append('\n');
            return;
        }
        String answer = call.group(3);
        check.due("an answer is named for " + line, answer != null, true);
        if (answer != null) {
            calls.add(line);
            named.add(answer.equals("true") ? 1L : answer.equals("false") ? 0L : Long.parseLong(answer));
            shown.add(call.group(2));
            body.append("answers.add(number(").append(call.group(1)).append("));\n");
        }
    }

    private void compareAnswers() throws Exception {
        List<?> answers = run();
        check.due("calls answered", answers.size(), calls.size());
        check.due("so few calls that one object may have had them all", calls.size() <= MOST_CALLS, true);
        for (int i = 0; i < calls.size() && i < answers.size(); i++) {
            check.due(calls.get(i), (Long) answers.get(i), named.get(i));
        }
    }

    private List<?> run() throws Exception {
        Path dir = Files.createTempDirectory("readme");
        try {
            Path source = dir.resolve("Shown.java");
            Files.writeString(source, "import java.util.ArrayList;\nimport java.util.List;\npublic final class Shown {\n"
                + "static long number(long answer) { return answer; }\n"
                + "static long number(boolean answer) { return answer ? 1 : 0; }\n"
                + helpers + "public static List<Long> answers() {\nList<Long> answers = new ArrayList<>();\n"
                + body + "return answers;\n}\n}\n");
            int refused = ToolProvider.getSystemJavaCompiler().run(null, null, null, "-encoding", "UTF-8", "-proc:none",
                "-cp", System.getProperty("java.class.path"), "-d", dir.toString(), source.toString());
            check.due("the page's Java compiles", refused, 0);
            if (refused != 0) {
                return List.of();
            }
            try (URLClassLoader loader = new URLClassLoader(new URL[] {dir.toUri().toURL()})) {
                return (List<?>) loader.loadClass("Shown").getMethod("answers").invoke(null);
            }
        } finally {
            remove(dir);
        }
    }

    private static void remove(Path dir) throws IOException {
        try (Stream<Path> files = Files.list(dir)) {
            files.map(Path::toFile).forEach(File::delete);
        }
        Files.delete(dir);
    }

    private void lookForWholeFace() {
        Set<String> face = new TreeSet<>();
        for (Method method : PostRing.class.getDeclaredMethods()) {
            if (Modifier.isPublic(method.getModifiers())) {
                face.add(method.getName());
            }
        }
        check.same("methods that the page shows", shown.toString(), face.toString());
    }

    private static void lookForTests(String page, Path home) throws IOException {
        Set<String> told = new TreeSet<>();
        Matcher row = TEST.matcher(page);
        while (row.find()) {
            told.add(row.group(1));
        }
        Set<String> there = new TreeSet<>();
        try (Stream<Path> files = Files.list(home.resolve("src/test/java"))) {
            files.map(file -> file.getFileName().toString()).filter(name -> name.endsWith("Test.java"))
                .forEach(name -> there.add(name.substring(0, name.length() - ".java".length())));
        }
        check.same("tests that the page lists", told.toString(), there.toString());
    }
}
