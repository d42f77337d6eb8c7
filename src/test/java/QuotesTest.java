import java.io.IOException;
import java.nio.file.DirectoryStream;
import java.nio.file.Files;
import java.nio.file.Path;
import java.util.HashMap;
import java.util.Map;
import java.util.TreeMap;
import java.util.regex.Matcher;
import java.util.regex.Pattern;

/**
 * Each test of the edges (src/test/java/*EdgesTest.java) has a remark that names a promise and quotes the document,
 * and what they quote is, taken together, all that 'Terms' and the promises say: no sentence is left without a test.
 */
public final class QuotesTest {
    private static final Pattern REMARK = Pattern.compile("/\\*\\*((?:[^*]|\\*(?!/))*)\\*/\\s*static void (\\w+)\\(\\)");
    private static final Pattern TEST = Pattern.compile("\\n    static void (\\w+)\\(\\)");
    private static final Pattern NAMED = Pattern.compile("^Promise (\\d+): \"([^\"]+)\"");

    /** By the number of a promise (0: 'Terms', -1: 'What it is') what the document says there, and which signs of it are quoted. */
    private static final Map<Integer, String> TEXTS = new TreeMap<>();
    private static final Map<Integer, boolean[]> QUOTED = new HashMap<>();

    private QuotesTest() { }

    public static void main(String[] args) throws IOException {
        readDocument();
        int tests = 0;
        try (DirectoryStream<Path> files = Files.newDirectoryStream(Path.of("src/test/java"), "*EdgesTest.java")) {
            for (Path file : files) {
                tests += readTests(file);
            }
        }
        System.out.println(tests + " tests of edges");
        for (int section : TEXTS.keySet()) {
            if (section >= 0) {
                nothingIsLeft(section);
            }
        }
        Due.end();
    }

    private static void readDocument() throws IOException {
        for (String section : Files.readString(Path.of("../shared/DOC.md")).split("\n## ")) {
            Matcher promise = Pattern.compile("(?s)^Promise (\\d+): [^\n]*\n+`[^`]*`: (.*)").matcher(section);
            if (promise.find()) {
                keep(Integer.parseInt(promise.group(1)), promise.group(2));
            } else if (section.startsWith("Terms\n")) {
                String text = section.substring("Terms\n".length()).replaceAll("(?m)^Ahead of the calls.*$", " ");
                keep(0, text.replaceAll("```(text)?", " ").replaceAll("======== [1-4] ", " "));
            } else if (section.startsWith("What it is\n")) {
                keep(-1, section);
            }
        }
        Due.due(1, "how many promises the document has", TEXTS.keySet().stream().filter(n -> n > 0).count(), 39);
    }

    private static void keep(int section, String text) {
        String plain = plain(text);
        TEXTS.put(section, plain);
        QUOTED.put(section, new boolean[plain.length()]);
    }

    private static String plain(String text) {
        return text.replaceAll("\\s+", " ").trim();
    }

    /** How many tests there are. */
    private static int readTests(Path file) throws IOException {
        String source = Files.readString(file);
        Map<String, String> remarks = new HashMap<>();
        for (Matcher m = REMARK.matcher(source); m.find();) {
            remarks.put(m.group(2), plain(m.group(1).replaceAll("\n *\\*", " ")));
        }
        int tests = 0;
        for (Matcher m = TEST.matcher(source); m.find();) {
            tests++;
            String name = file.getFileName() + " " + m.group(1);
            Matcher named = NAMED.matcher(remarks.getOrDefault(m.group(1), ""));
            boolean good = named.find();
            Due.due(1, name + " names a promise and quotes", good ? 1 : 0, 1);
            if (good) {
                quote(name, Integer.parseInt(named.group(1)), named.group(2));
            }
        }
        return tests;
    }

    /** A quote stands in the promise that is named, or in what is said ahead of all promises. */
    private static void quote(String name, int promise, String quote) {
        boolean found = false;
        for (int section : new int[] {promise, 0, -1}) {
            String text = TEXTS.getOrDefault(section, "");
            for (int at = text.indexOf(quote); at >= 0; at = text.indexOf(quote, at + 1)) {
                found = true;
                for (int i = 0; i < quote.length(); i++) {
                    QUOTED.get(section)[at + i] = true;
                }
            }
            if (found) {
                break;
            }
        }
        Due.due(promise, name + " quotes what stands there: " + quote, found ? 1 : 0, 1);
    }

    private static void nothingIsLeft(int section) {
        String text = TEXTS.get(section);
        boolean[] quoted = QUOTED.get(section);
        StringBuilder left = new StringBuilder();
        for (int i = 0; i < text.length(); i++) {
            left.append(quoted[i] ? '\n' : text.charAt(i));
        }
        for (String piece : left.toString().split("\n+")) {
            Due.due(section, "no test quotes: " + piece.trim(), piece.matches("[^A-Za-z0-9]*") ? 1 : 0, 1);
        }
    }
}
