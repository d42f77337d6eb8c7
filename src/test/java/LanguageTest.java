import java.lang.reflect.Constructor;
import java.lang.reflect.Field;
import java.lang.reflect.Method;
import java.lang.reflect.Modifier;
import java.nio.file.Files;
import java.nio.file.Path;
import java.util.HashSet;
import java.util.Set;
import java.util.TreeSet;
import java.util.regex.Matcher;
import java.util.regex.Pattern;

/** The document's face, and those rules of LANGUAGE.md that can be looked at from here. */
public final class LanguageTest {
    private static final String[] FACE = {
        "sheet 3", "set 3", "copy 5", "drop 1", "key 3", "keyOn 2", "close 3", "paper 2", "told 2", "show 3", "check 5", "lies 2",
        "over 3", "isOver 4", "secret 2", "answer 4", "taken 4", "odds 3", "part 3", "friends 4", "book 2", "revoke 2", "holds 3",
        "feed 2", "doors 0", "fault 0", "door 2", "least 4", "seen 3", "together 1", "queue 4", "day 1", "kind 1", "as 2", "ask 2",
        "trace 1", "count 1", "status 0",
    };

    public static void main(String[] args) throws Exception {
        face();
        members();
        source();
        Due.end();
    }

    private static void face() {
        Class<?> face = PaperPocket.class;
        Due.due(1, "public and final", face.getModifiers(), Modifier.PUBLIC | Modifier.FINAL);
        Set<String> due = new TreeSet<>(Set.of(FACE));
        Set<String> there = new TreeSet<>();
        for (Method method : face.getDeclaredMethods()) {
            if (Modifier.isPublic(method.getModifiers())) {
                there.add(method.getName() + " " + method.getParameterCount());
                Due.due(1, method.getName() + " answers an int", method.getReturnType() == int.class ? 1 : 0, 1);
                Due.due(1, method.getName() + " is not static", Modifier.isStatic(method.getModifiers()) ? 1 : 0, 0);
            } else {
                Due.due(1, method.getName() + " is private", Modifier.isPrivate(method.getModifiers()) ? 1 : 0, 1);
            }
        }
        Due.due(1, "the methods of the face: " + there, there.equals(due) ? 1 : 0, 1);
        Constructor<?>[] constructors = face.getDeclaredConstructors();
        Due.due(1, "one constructor", constructors.length, 1);
        Due.due(1, "it is public", constructors[0].getModifiers(), Modifier.PUBLIC);
        Due.due(1, "NONE", PaperPocket.NONE, Due.NONE);
        Due.due(1, "BAD", PaperPocket.BAD, Due.BAD);
        Due.due(1, "STATE", PaperPocket.STATE, Due.STATE);
        Due.due(1, "FULL", PaperPocket.FULL, Due.FULL);
    }

    private static void members() {
        Set<String> names = new HashSet<>();
        for (String one : FACE) {
            names.add(one.split(" ")[0]);
        }
        Class<?>[] inside = PaperPocket.class.getDeclaredClasses();
        Due.due(1, "at most twelve classes", inside.length + 1 <= 12 ? 1 : 0, 1);
        for (Field field : PaperPocket.class.getDeclaredFields()) {
            boolean constant = Set.of("NONE", "BAD", "STATE", "FULL").contains(field.getName());
            Due.due(1, "field " + field.getName(), Modifier.isPrivate(field.getModifiers()) ? 0 : 1, constant ? 1 : 0);
        }
        fewFields(PaperPocket.class);
        for (Class<?> one : inside) {
            fewFields(one);
            Due.due(1, one + " is static", Modifier.isStatic(one.getModifiers()) ? 1 : 0, 1);
            for (Method method : one.getDeclaredMethods()) {
                Due.due(1, "no name of the face: " + method, names.contains(method.getName()) ? 1 : 0, 0);
                Due.due(1, "seven parameters at most: " + method, method.getParameterCount() <= 7 ? 1 : 0, 1);
            }
            for (Field field : one.getDeclaredFields()) {
                int m = field.getModifiers();
                Due.due(1, "static ones are final: " + field, Modifier.isStatic(m) && !Modifier.isFinal(m) ? 1 : 0, 0);
            }
        }
    }

    private static void fewFields(Class<?> one) {
        int many = 0;
        for (Field field : one.getDeclaredFields()) {
            many += Modifier.isStatic(field.getModifiers()) ? 0 : 1;
        }
        Due.due(1, "twenty fields at most: " + one, many <= 20 ? 1 : 0, 1);
    }

    private static void source() throws Exception {
        String text = Files.readString(Path.of("src/main/java/PaperPocket.java"));
        String code = text.replaceAll("(?s)/\\*.*?\\*/", " ").replaceAll("//[^\n]*", " ").replaceAll("\"[^\"]*\"", "\"\"");
        String words = "throw|throws|try|catch|finally|synchronized|assert|package|volatile|native|Object|Exception|Exact|hashCode|toString|random|Thread";
        Matcher matcher = Pattern.compile("\\b(" + words + ")\\b|->|::|\\bMath\\.\\w+Exact").matcher(code);
        while (matcher.find()) {
            Due.due(1, "not of the language: " + matcher.group(), 1, 0);
        }
        Matcher imports = Pattern.compile("import ([\\w.]+);").matcher(code);
        while (imports.find()) {
            Due.due(1, "import " + imports.group(1), Set.of("java.util.Arrays").contains(imports.group(1)) ? 1 : 0, 1);
        }
        Matcher divisors = Pattern.compile("[/%] *(\\w[\\w.]*)").matcher(code);
        while (divisors.find()) {
            String divisor = divisors.group(1);
            Due.due(1, "a divisor is a constant: " + divisor, divisor.matches("([A-Z]\\w*\\.)?[A-Z_]+|[1-9]\\d*") ? 1 : 0, 1);
        }
        int longest = 0;
        int from = 0;
        String[] lines = text.split("\n");
        for (int i = 0; i < lines.length; i++) {
            if (lines[i].matches(" {4,8}\\S.*\\) \\{")) {
                from = i;
            }
            if (lines[i].matches(" {4,8}}")) {
                longest = Math.max(longest, i - from + 1);
            }
        }
        Due.due(1, "a method has sixty lines at most, the longest " + longest, longest <= 60 ? 1 : 0, 1);
    }
}
