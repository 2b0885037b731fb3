import java.io.IOException;
import java.io.UncheckedIOException;
import java.lang.reflect.Method;
import java.lang.reflect.Modifier;
import java.net.URL;
import java.net.URLClassLoader;
import java.nio.file.Files;
import java.nio.file.Path;
import java.util.Comparator;
import java.util.List;
import java.util.regex.Matcher;
import java.util.regex.Pattern;
import java.util.stream.Stream;
import javax.tools.JavaCompiler;
import javax.tools.ToolProvider;

/** README.md: its example answers as it says there, and it names all calls and all tests. */
public final class ReadmeTest {
    private static final Path README = Path.of("README.md"), TESTS = Path.of("src/test/java");
    /** A line of the example that says what is due: its answer's name, and the number. */
    private static final Pattern ANSWER = Pattern.compile("(?:int|long) (\\w+) = .*; +// (-?\\d+): .*");
    private static int wrong;

    private static void want(boolean fine, String what) {
        if (!fine) {
            wrong++;
            System.out.println(what);
        }
    }

    /** The example as a class whose tell() answers how many of its answers are not as it says. */
    private static String asClass(String example) {
        StringBuilder s = new StringBuilder("public final class Example {\n    public static int tell() {\n        int wrong = 0;\n");
        for (String line : example.split("\n")) {
            s.append("        ").append(line).append('\n');
            Matcher m = ANSWER.matcher(line);
            if (m.matches()) {
                s.append("        if (").append(m.group(1)).append(" != ").append(m.group(2)).append("L) {\n            wrong++;\n");
                s.append("            System.out.println(\"README.md: ").append(m.group(1)).append(" is \" + ").append(m.group(1));
                s.append(" + \", due is ").append(m.group(2)).append("\");\n        }\n");
            }
        }
        return s.append("        return wrong;\n    }\n}\n").toString();
    }

    private static void runs(String example) throws IOException, ReflectiveOperationException {
        Path out = Files.createTempDirectory("readme");
        try {
            Path source = out.resolve("Example.java");
            Files.writeString(source, asClass(example));
            JavaCompiler javac = ToolProvider.getSystemJavaCompiler();
            String classes = System.getProperty("java.class.path");
            int failed = javac.run(null, null, null, "-cp", classes, "-d", out.toString(), source.toString());
            want(failed == 0, "README.md: the example does not compile");
            if (failed == 0) {
                try (URLClassLoader loader = new URLClassLoader(new URL[] {out.toUri().toURL()})) {
                    wrong += (Integer) loader.loadClass("Example").getMethod("tell").invoke(null);
                }
            }
        } finally {
            remove(out);
        }
    }

    private static void remove(Path directory) throws IOException {
        try (Stream<Path> all = Files.walk(directory)) {
            all.sorted(Comparator.reverseOrder()).forEach(path -> {
                try {
                    Files.delete(path);
                } catch (IOException e) {
                    throw new UncheckedIOException(e);
                }
            });
        }
    }

    /** Every call stands in the table, with as many names as it has numbers. */
    private static void namesCalls(String readme) {
        for (Method m : MillWind.class.getDeclaredMethods()) {
            if (Modifier.isPublic(m.getModifiers())) {
                Matcher call = Pattern.compile("`" + m.getName() + "\\(([^)]*)\\)`").matcher(readme);
                boolean named = call.find();
                int names = !named || call.group(1).isEmpty() ? 0 : call.group(1).split(", ").length;
                want(named && names == m.getParameterCount(), "README.md does not name the call " + m.getName());
            }
        }
    }

    private static void namesTests(String readme) throws IOException {
        want(readme.contains("    .ci/run\n"), "README.md does not say how to run the tests");
        try (Stream<Path> files = Files.list(TESTS)) {
            List<Path> tests = files.filter(file -> file.toString().endsWith("Test.java")).toList();
            for (Path test : tests) {
                want(readme.contains("`src/test/java/" + test.getFileName() + "`"), "README.md does not name " + test);
            }
        }
    }

    public static void main(String[] args) throws IOException, ReflectiveOperationException {
        String readme = Files.readString(README);
        Matcher example = Pattern.compile("(?s)```java\n(.*?)```").matcher(readme);
        boolean found = example.find();
        want(found, "README.md has no example");
        if (found) {
            long answers = example.group(1).lines().filter(line -> ANSWER.matcher(line).matches()).count();
            long lines = example.group(1).lines().filter(line -> line.contains("//")).count();
            want(answers == lines && answers >= 10, "README.md: not each line of the example says what is due");
            runs(example.group(1));
        }
        namesCalls(readme);
        namesTests(readme);
        System.out.println(wrong == 0 ? "README.md holds" : wrong + " faults");
        if (wrong != 0) {
            System.exit(1);
        }
    }
}
