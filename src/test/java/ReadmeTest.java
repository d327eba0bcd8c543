import java.io.IOException;
import java.lang.reflect.Method;
import java.lang.reflect.Modifier;
import java.net.URL;
import java.net.URLClassLoader;
import java.nio.file.Files;
import java.nio.file.Path;
import java.util.ArrayList;
import java.util.List;
import java.util.Set;
import java.util.TreeSet;
import java.util.regex.Matcher;
import java.util.regex.Pattern;
import java.util.stream.Collectors;
import java.util.stream.Stream;
import javax.tools.ToolProvider;

/** What README.md says is so: its example is compiled and run, its names are looked up. */
public final class ReadmeTest {
    private static final Pattern BLOCK = Pattern.compile("(?s)```java\n(.*?)```");
    private static final Pattern ANSWER = Pattern.compile("int (\\w+) = money\\.(.*); +// (-?\\d+): ");

    public static void main(String[] args) throws Exception {
        String readme = Files.readString(Path.of("README.md"));
        Matcher block = BLOCK.matcher(readme);
        Check.yes("README.md has an example", block.find());
        example(block.group(1));
        Check.no("README.md has a second example", block.find());
        tableHasEveryCall(readme);
        testsAreNamed(readme);
        Check.end("ReadmeTest");
    }

    private static void example(String code) throws Exception {
        List<String> names = new ArrayList<>();
        List<String> calls = new ArrayList<>();
        List<Integer> dues = new ArrayList<>();
        Matcher line = ANSWER.matcher(code);
        while (line.find()) {
            names.add(line.group(1));
            calls.add(line.group(2));
            dues.add(Integer.valueOf(line.group(3)));
        }
        Check.due("lines with a call's answer", names.size(), code.lines().filter(l -> l.startsWith("int ")).count());
        int[] answers = run(code, names);
        for (int i = 0; i < answers.length; i++) {
            Check.due("README.md: " + calls.get(i), answers[i], dues.get(i));
        }
    }

    /** The class path's own WireMoney answers, so that what is tested is what was compiled for all tests. */
    private static int[] run(String code, List<String> names) throws Exception {
        Path dir = Files.createTempDirectory("readme");
        try {
            Path file = dir.resolve("Yours.java");
            Files.writeString(file, "public final class Yours {\npublic static int[] answers() {\n" + code
                    + "return new int[] {" + String.join(", ", names) + "};\n}\n}\n");
            int failed = ToolProvider.getSystemJavaCompiler().run(null, null, null,
                    "-cp", System.getProperty("java.class.path"), "-d", dir.toString(), file.toString());
            Check.due("javac of the example", failed, 0);
            if (failed != 0) {
                return new int[0];
            }
            try (URLClassLoader loader = new URLClassLoader(new URL[] {dir.toUri().toURL()})) {
                return (int[]) loader.loadClass("Yours").getMethod("answers").invoke(null);
            }
        } finally {
            for (String name : new String[] {"Yours.java", "Yours.class", ""}) {
                Files.deleteIfExists(dir.resolve(name));
            }
        }
    }

    private static void tableHasEveryCall(String readme) {
        Set<String> rows = new TreeSet<>();
        Matcher row = Pattern.compile("(?m)^\\| `(\\w+)\\(([^)]*)\\)` \\|").matcher(readme);
        while (row.find()) {
            rows.add(row.group(1) + " of " + row.group(2).split(",").length);
        }
        Set<String> calls = new TreeSet<>();
        for (Method m : WireMoney.class.getDeclaredMethods()) {
            if (Modifier.isPublic(m.getModifiers())) {
                calls.add(m.getName() + " of " + m.getParameterCount());
            }
        }
        Check.yes("the table " + rows + " has " + calls, rows.equals(calls));
    }

    private static void testsAreNamed(String readme) throws IOException {
        Set<String> named = new TreeSet<>();
        Matcher name = Pattern.compile("`([A-Z]\\w*Test)`").matcher(readme);
        while (name.find()) {
            named.add(name.group(1));
        }
        // README.md names the first and the last of these alone.
        for (int i = 1; i <= 18; i++) {
            named.add(String.format("Promise%02dTest", i));
        }
        try (Stream<Path> files = Files.list(Path.of("src/test/java"))) {
            Set<String> found = files.map(p -> p.getFileName().toString())
                    .filter(n -> n.endsWith("Test.java"))
                    .map(n -> n.substring(0, n.length() - ".java".length()))
                    .collect(Collectors.toCollection(TreeSet::new));
            Check.yes("the named tests " + named + " are " + found, named.equals(found));
        }
    }
}
