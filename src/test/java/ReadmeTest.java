import java.io.IOException;
import java.lang.reflect.Method;
import java.lang.reflect.Modifier;
import java.net.URL;
import java.net.URLClassLoader;
import java.nio.file.Files;
import java.nio.file.Path;
import java.util.ArrayList;
import java.util.Comparator;
import java.util.List;
import java.util.regex.Matcher;
import java.util.regex.Pattern;
import java.util.spi.ToolProvider;
import java.util.stream.Collectors;
import java.util.stream.Stream;

/** README.md: its example is run and answers as it says, and no call of the face is left out. */
public final class ReadmeTest {
    private static final Path README = Path.of("README.md");
    private static final Pattern BLOCK = Pattern.compile("(?s)```java\n(.*?)```");
    /** A call and, behind it, its answer. */
    private static final Pattern CALL = Pattern.compile("^(x\\.\\w+\\(.*\\)); *// (-?\\d+|true|false): .*$");

    public static void main(String[] args) throws Exception {
        String text = Files.readString(README);
        example(text);
        calls(text);
        tests(text);
        CheckKit.end();
    }

    private static void example(String text) throws Exception {
        StringBuilder code = new StringBuilder("public final class Example {\n");
        code.append("public static void run(java.util.List<String> got) {\n");
        List<String> calls = new ArrayList<>();
        List<String> due = new ArrayList<>();
        Matcher block = BLOCK.matcher(text);
        while (block.find()) {
            for (String line : block.group(1).split("\n")) {
                Matcher call = CALL.matcher(line);
                boolean isCall = call.matches();
                CheckKit.due("README: an answer behind " + line, isCall || !line.startsWith("x."), true);
                if (isCall) {
                    calls.add(call.group(1));
                    due.add(call.group(2));
                }
                code.append(isCall ? "got.add(String.valueOf(" + call.group(1) + "));" : line).append('\n');
            }
        }
        List<String> got = run(code.append("}}\n").toString());
        CheckKit.due("README: the example has answers", due.size() > 0 && got.size() == due.size(), true);
        for (int i = 0; i < Math.min(got.size(), due.size()); i++) {
            String told = "README: " + calls.get(i) + " answered " + got.get(i) + ", there stands " + due.get(i);
            CheckKit.due(told, got.get(i).equals(due.get(i)), true);
        }
    }

    private static List<String> run(String code) throws Exception {
        List<String> got = new ArrayList<>();
        Path dir = Files.createTempDirectory("readme");
        try {
            Path file = Files.writeString(dir.resolve("Example.java"), code);
            ToolProvider javac = ToolProvider.findFirst("javac").orElseThrow();
            int end = javac.run(System.out, System.out, "-d", dir.toString(), "-cp", System.getProperty("java.class.path"),
                    file.toString());
            CheckKit.due("README: the example compiles", end, 0);
            if (end == 0) {
                try (URLClassLoader loader = new URLClassLoader(new URL[] {dir.toUri().toURL()})) {
                    loader.loadClass("Example").getMethod("run", List.class).invoke(null, got);
                }
            }
        } finally {
            clear(dir);
        }
        return got;
    }

    private static void clear(Path dir) throws IOException {
        List<Path> all;
        try (Stream<Path> files = Files.walk(dir)) {
            all = files.sorted(Comparator.reverseOrder()).collect(Collectors.toList());
        }
        for (Path path : all) {
            Files.delete(path);
        }
    }

    private static void calls(String text) {
        for (Method m : PlateVote.class.getDeclaredMethods()) {
            if (Modifier.isPublic(m.getModifiers())) {
                CheckKit.due("README names " + m.getName(), text.contains("`" + m.getName() + "`"), true);
            }
        }
    }

    private static void tests(String text) throws IOException {
        CheckKit.due("README says .ci/run", text.contains("\n    .ci/run\n"), true);
        CheckKit.due(".ci/run can be run", Files.isExecutable(Path.of(".ci/run")), true);
        List<String> names;
        try (Stream<Path> files = Files.list(Path.of("src/test/java"))) {
            names = files.map(f -> f.getFileName().toString().replace(".java", "")).sorted().collect(Collectors.toList());
        }
        for (String name : names) {
            boolean isTest = !name.endsWith("Kit");
            CheckKit.due("README names " + name, !isTest || text.contains("`" + name + "`"), true);
        }
    }
}
