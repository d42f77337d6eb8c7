import java.io.IOException;
import java.lang.reflect.Method;
import java.lang.reflect.Modifier;
import java.net.URL;
import java.net.URLClassLoader;
import java.nio.file.Files;
import java.nio.file.Path;
import java.util.Set;
import java.util.TreeSet;
import java.util.regex.Matcher;
import java.util.regex.Pattern;
import java.util.stream.Collectors;
import java.util.stream.Stream;
import javax.tools.ToolProvider;

/** README.md: its examples are compiled and answer what they say, and its lists of calls and of tests are whole. */
public final class ReadmeTest {
    /** A line of an example that tells an answer: what is declared, the call, the answer. */
    private static final Pattern TOLD = Pattern.compile("(int \\w+ = )?(pocket\\.\\w+\\(.*\\)); +// (-?\\d+)(:.*)?");

    private ReadmeTest() { }

    public static void main(String[] args) throws IOException, ReflectiveOperationException {
        String page = Files.readString(Path.of("README.md"));
        examples(page);
        calls(page);
        tests(page);
        Due.end();
    }

    private static void examples(String page) throws IOException, ReflectiveOperationException {
        StringBuilder body = new StringBuilder();
        int told = 0;
        for (Matcher block = Pattern.compile("(?s)```java\n(.*?)```").matcher(page); block.find();) {
            for (String line : block.group(1).split("\n")) {
                Matcher m = TOLD.matcher(line);
                if (!m.matches()) {
                    Due.due(1, "an answer is told as one: " + line, line.contains("//") ? 1 : 0, 0);
                    body.append(line).append('\n');
                    continue;
                }
                told++;
                String call = m.group(2);
                String looked = "ReadmeTest.look(\"" + call.replace("\"", "\\\"") + "\", " + call + ", " + m.group(3) + ");\n";
                body.append(m.group(1) == null ? "" : m.group(1)).append(looked);
            }
        }
        Due.due(1, "answers are told", told > 0 ? 1 : 0, 1);
        run("public final class Examples { public static void run() {\n" + body + "} }\n");
    }

    private static void run(String source) throws IOException, ReflectiveOperationException {
        Path directory = Files.createTempDirectory("readme");
        Path file = directory.resolve("Examples.java");
        Files.writeString(file, source);
        String path = System.getProperty("java.class.path");
        int trouble = ToolProvider.getSystemJavaCompiler().run(null, null, null, "-cp", path, "-d", directory.toString(), file.toString());
        Due.due(1, "the examples compile", trouble, 0);
        if (trouble == 0) {
            try (URLClassLoader loader = new URLClassLoader(new URL[] {directory.toUri().toURL()})) {
                loader.loadClass("Examples").getMethod("run").invoke(null);
            }
        }
        try (Stream<Path> all = Files.list(directory)) {
            for (Path one : all.collect(Collectors.toList())) {
                Files.delete(one);
            }
        }
        Files.delete(directory);
    }

    /** Public, since the examples come by a class loader of their own. */
    public static int look(String call, int got, int due) {
        Due.due(1, "README.md: " + call, got, due);
        return got;
    }

    private static void calls(String page) {
        Set<String> face = new TreeSet<>();
        for (Method method : PaperPocket.class.getDeclaredMethods()) {
            if (Modifier.isPublic(method.getModifiers())) {
                face.add(method.getName());
            }
        }
        Set<String> listed = new TreeSet<>();
        Matcher rows = Pattern.compile("(?s)### All calls\n(.*?)\n## ").matcher(page);
        if (rows.find()) {
            for (Matcher name = Pattern.compile("`(\\w+)`").matcher(rows.group(1)); name.find();) {
                listed.add(name.group(1));
            }
        }
        Due.due(1, "the calls listed are those of the face: " + listed, listed.equals(face) ? 1 : 0, 1);
    }

    private static void tests(String page) throws IOException {
        Set<String> there = new TreeSet<>();
        try (Stream<Path> files = Files.list(Path.of("src/test/java"))) {
            files.map(f -> f.getFileName().toString()).filter(n -> n.endsWith("Test.java")).forEach(n -> there.add(n.replace(".java", "")));
        }
        Set<String> listed = new TreeSet<>();
        for (Matcher row = Pattern.compile("(?m)^\\| (\\w+Test) \\|").matcher(page); row.find();) {
            listed.add(row.group(1));
        }
        Due.due(1, "the tests listed are those there are: " + listed, listed.equals(there) ? 1 : 0, 1);
    }
}
