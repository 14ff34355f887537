import java.io.IOException;
import java.io.StringWriter;
import java.lang.reflect.Method;
import java.lang.reflect.Modifier;
import java.net.URL;
import java.net.URLClassLoader;
import java.nio.file.Files;
import java.nio.file.Path;
import java.util.ArrayList;
import java.util.Comparator;
import java.util.List;
import java.util.Map;
import java.util.regex.Matcher;
import java.util.regex.Pattern;
import java.util.stream.Stream;
import javax.tools.JavaCompiler;
import javax.tools.StandardJavaFileManager;
import javax.tools.ToolProvider;

/** What README.md says is so: its blocks of Java compile as they stand, and each call answers what is written behind it. */
public final class ReadmeTest {
    private static final Path README = Path.of("README.md"), TESTS = Path.of("src/test/java");
    private static final Pattern BLOCK = Pattern.compile("(?s)```java\n(.*?)```");
    private static final Pattern SHOWN = Pattern.compile("^sons\\.", Pattern.MULTILINE);
    private static final Pattern ANSWERED = Pattern.compile("^(sons\\.\\w+\\(.*\\)); +// ([A-Z]+|-?\\d+)(:.*)?$");
    private static final Map<String, Long> NAMED = Map.of("NONE", -1L, "UNKNOWN", -101L, "OUTSIDE", -102L,
        "STATE", -103L, "FULL", -104L);

    private final Check check = new Check("ReadmeTest");
    private final List<String> calls = new ArrayList<>();
    private final List<Long> due = new ArrayList<>();

    public static void main(String[] args) throws Exception {
        ReadmeTest test = new ReadmeTest();
        String text = Files.readString(README);
        String blocks = blocksOf(text);
        test.namesTheFace(blocks);
        test.namesTheTests(text);
        test.namesTheRefusals(text);
        test.answers(blocks);
        test.check.end();
    }

    private static String blocksOf(String text) {
        StringBuilder all = new StringBuilder();
        Matcher matcher = BLOCK.matcher(text);
        while (matcher.find()) {
            all.append(matcher.group(1));
        }
        return all.toString();
    }

    private void namesTheFace(String blocks) {
        for (Method method : SkimmedSons.class.getDeclaredMethods()) {
            if (Modifier.isPublic(method.getModifiers())) {
                check.holds(method.getName() + "() is shown", blocks.contains("sons." + method.getName() + "("));
            }
        }
    }

    private void namesTheTests(String text) throws IOException {
        try (Stream<Path> files = Files.list(TESTS)) {
            for (Path file : files.sorted().toList()) {
                String name = file.getFileName().toString().replace(".java", "");
                if (name.endsWith("Test")) {
                    check.holds(name + " is told of", text.contains("`" + name + "`"));
                }
            }
        }
    }

    private void namesTheRefusals(String text) {
        NAMED.forEach((name, number) -> {
            boolean none = number == SkimmedSons.NONE;
            check.holds(name + " is told of",
                text.contains(none ? "`NONE` (-1)" : "| `" + name + "` | " + number + " |"));
        });
    }

    private void answers(String blocks) throws Exception {
        String source = exampleOf(blocks);
        check.due("calls that tell no answer", count(SHOWN, blocks) - calls.size(), 0);
        long[] got = run(source);
        check.due("answers", got.length, due.size());
        for (int i = 0; i < got.length; i++) {
            check.due(calls.get(i) + ", call " + i + " of README.md", got[i], due.get(i));
        }
    }

    private static int count(Pattern pattern, String text) {
        return (int) pattern.matcher(text).results().count();
    }

    /** The blocks as the body of a method that keeps what each call answered. */
    private String exampleOf(String blocks) {
        StringBuilder body = new StringBuilder();
        for (String line : blocks.split("\n")) {
            Matcher matcher = ANSWERED.matcher(line);
            if (matcher.matches()) {
                body.append("answers[").append(calls.size()).append("] = ").append(matcher.group(1)).append(";\n");
                calls.add(matcher.group(1));
                String answer = matcher.group(2);
                due.add(NAMED.containsKey(answer) ? NAMED.get(answer) : Long.valueOf(answer));
            } else {
                body.append(line).append('\n');
            }
        }
        return "public final class ReadmeExample {\npublic static long[] answers() {\nlong[] answers = new long["
            + calls.size() + "];\n" + body + "return answers;\n}\n}\n";
    }

    private long[] run(String source) throws Exception {
        Path folder = Files.createTempDirectory("readme");
        try {
            Path file = folder.resolve("ReadmeExample.java");
            Files.writeString(file, source);
            if (!compiles(file, folder)) {
                return new long[0];
            }
            try (URLClassLoader loader = new URLClassLoader(new URL[] {folder.toUri().toURL()})) {
                return (long[]) loader.loadClass("ReadmeExample").getMethod("answers").invoke(null);
            }
        } finally {
            remove(folder);
        }
    }

    private boolean compiles(Path file, Path folder) throws IOException {
        JavaCompiler compiler = ToolProvider.getSystemJavaCompiler();
        StringWriter told = new StringWriter();
        try (StandardJavaFileManager files = compiler.getStandardFileManager(null, null, null)) {
            List<String> options = List.of("-d", folder.toString(), "-cp", System.getProperty("java.class.path"));
            boolean so = compiler.getTask(told, files, null, options, null, files.getJavaFileObjects(file)).call();
            check.holds("the blocks of README.md compile " + told, so);
            return so;
        }
    }

    private static void remove(Path folder) throws IOException {
        try (Stream<Path> all = Files.walk(folder)) {
            for (Path one : all.sorted(Comparator.reverseOrder()).toList()) {
                Files.delete(one);
            }
        }
    }
}
