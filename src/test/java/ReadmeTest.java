import java.io.IOException;
import java.lang.reflect.Method;
import java.lang.reflect.Modifier;
import java.net.URL;
import java.net.URLClassLoader;
import java.nio.file.Files;
import java.nio.file.Path;
import java.util.ArrayList;
import java.util.Comparator;
import java.util.List;
import java.util.regex.Matcher;
import java.util.regex.Pattern;
import java.util.stream.Stream;
import javax.tools.ToolProvider;

/** README.md's example answers what it says, and README.md leaves out no call and no test. */
public final class ReadmeTest {
    private static final Path README = Path.of("README.md"), TESTS = Path.of("src/test/java");
    private static final Pattern EXAMPLE = Pattern.compile("(?s)```java\n(.*?)```");
    /** A call, and behind it what it answers. */
    private static final Pattern ANSWERED = Pattern.compile("(x\\.\\w+\\(.*\\)); +// (-?\\d+)\\b.*");
    private static final Check c = new Check();

    public static void main(String[] args) throws Exception {
        String page = Files.readString(README);
        namesAll(page);
        exampleHolds(page);
        c.end();
    }

    private static void namesAll(String page) throws IOException {
        c.in("README.md names");
        for (Method m : HouseOfHours.class.getDeclaredMethods()) {
            if (Modifier.isPublic(m.getModifiers())) {
                c.due(m.getName(), page.contains("`" + m.getName() + "()`") ? 1 : 0, 1);
            }
        }
        try (Stream<Path> tests = Files.list(TESTS)) {
            for (Path test : tests.sorted().toList()) {
                String name = test.getFileName().toString().replace(".java", "");
                if (name.endsWith("Test")) {
                    c.due(name, page.contains("- `" + name + "`: ") ? 1 : 0, 1);
                }
            }
        }
    }

    private static void exampleHolds(String page) throws Exception {
        c.in("README.md's example");
        Matcher example = EXAMPLE.matcher(page);
        boolean there = example.find();
        c.due("is there", there ? 1 : 0, 1);
        if (!there) {
            return;
        }
        List<String> calls = new ArrayList<>();
        List<Long> wants = new ArrayList<>();
        String program = program(example.group(1), calls, wants);
        c.due("has answers", calls.size() >= 20 ? 1 : 0, 1);
        long[] got = run(program, calls.size());
        for (int i = 0; i < got.length; i++) {
            c.due(calls.get(i), got[i], wants.get(i));
        }
    }

    /** The example as a class whose method puts each answer that the page tells into a row. */
    private static String program(String example, List<String> calls, List<Long> wants) {
        StringBuilder lines = new StringBuilder("public final class Example { public static void run(long[] got) {\n");
        for (String line : example.split("\n")) {
            Matcher told = ANSWERED.matcher(line.trim());
            if (told.matches()) {
                lines.append("got[").append(calls.size()).append("] = ").append(told.group(1)).append(";\n");
                calls.add(told.group(1));
                wants.add(Long.parseLong(told.group(2)));
            } else {
                lines.append(line).append('\n');
            }
        }
        return lines.append("} }\n").toString();
    }

    private static long[] run(String program, int answers) throws Exception {
        long[] got = new long[answers];
        Path dir = Files.createTempDirectory("readme");
        try {
            Path source = Files.writeString(dir.resolve("Example.java"), program);
            int failed = ToolProvider.getSystemJavaCompiler().run(null, null, null, "-cp",
                System.getProperty("java.class.path"), "-d", dir.toString(), source.toString());
            c.due("compiles", failed, 0);
            if (failed == 0) {
                try (URLClassLoader loader = new URLClassLoader(new URL[] {dir.toUri().toURL()})) {
                    loader.loadClass("Example").getMethod("run", long[].class).invoke(null, (Object) got);
                }
            }
        } finally {
            remove(dir);
        }
        return got;
    }

    private static void remove(Path dir) throws IOException {
        try (Stream<Path> all = Files.walk(dir)) {
            for (Path path : all.sorted(Comparator.reverseOrder()).toList()) {
                Files.delete(path);
            }
        }
    }
}
