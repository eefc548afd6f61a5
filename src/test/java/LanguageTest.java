import java.lang.reflect.Constructor;
import java.lang.reflect.Executable;
import java.lang.reflect.Field;
import java.lang.reflect.Method;
import java.lang.reflect.Modifier;
import java.nio.charset.StandardCharsets;
import java.nio.file.Files;
import java.nio.file.Path;
import java.util.ArrayList;
import java.util.List;
import java.util.Set;
import java.util.TreeSet;
import java.util.regex.Matcher;
import java.util.regex.Pattern;

/** The rules of LANGUAGE.md that can be seen from the file and from the class. Its argument is the project's folder. */
public final class LanguageTest {
    private static final Check CHECK = new Check("LanguageTest");
    private static final Set<String> FACE = new TreeSet<>(List.of("feed", "end", "house", "rule", "head", "room", "door", "sense",
        "was", "go", "rest", "die", "open", "undo", "run", "would", "tell", "fits", "who", "first", "next", "known", "watch",
        "secret", "theft", "gather", "messages", "swaps", "seed", "nights", "count", "image", "back"));

    public static void main(String[] args) throws Exception {
        Path file = Path.of(args.length > 0 ? args[0] : ".", "src", "main", "java", "HeadCounts.java");
        String text = Files.readString(file, StandardCharsets.ISO_8859_1);
        words(text);
        lengths(text);
        divisors(bare(text));
        face();
        inside();
        CHECK.close();
    }

    private static String bare(String text) {
        return text.replaceAll("(?s)/\\*.*?\\*/", "").replaceAll("//[^\n]*", "").replaceAll("\"[^\"\n]*\"", "\"\"");
    }

    private static void words(String text) {
        String code = bare(text);
        for (String word : new String[] {"throw", "throws", "try", "catch", "finally", "synchronized", "assert", "package",
            "protected", "->", "::", "Exact\\(", "System\\.out", "Object", "Exception", "MAX_VALUE", "MIN_VALUE", "String\\.",
            "yield", "var", "static \\{", "native", "volatile", "new [a-zA-Z]+\\([^;]*\\) \\{", "hashCode", "toString", "equals"}) {
            String pattern = word.matches("[a-z]+") ? "\\b" + word + "\\b" : word;
            CHECK.due("'" + word + "' is not used", Pattern.compile(pattern).matcher(code).find(), false);
        }
        Matcher imports = Pattern.compile("import ([^;]*);").matcher(code);
        while (imports.find()) {
            CHECK.due("import " + imports.group(1), imports.group(1).equals("java.util.Arrays"), true);
        }
        Matcher calls = Pattern.compile("\\b(Arrays|Math|Integer|Long|System|String)\\.(\\w+)").matcher(code);
        Set<String> listed = Set.of("Arrays.fill", "Arrays.copyOf", "Arrays.copyOfRange", "Math.max", "Math.min", "Math.abs",
            "Integer.bitCount", "Integer.numberOfTrailingZeros", "System.arraycopy");
        while (calls.find()) {
            CHECK.due(calls.group(), listed.contains(calls.group()), true);
        }
        for (int i = 0; i < text.length(); i++) {
            if (text.charAt(i) > 126) {
                CHECK.due("a sign above 126 at " + i, text.charAt(i), 126);
            }
        }
    }

    /** No method of more than sixty lines, no line of more than 140 signs. */
    private static void lengths(String text) {
        String[] lines = text.split("\n");
        int start = -1;
        for (int i = 0; i < lines.length; i++) {
            CHECK.due("line " + (i + 1) + " is short", lines[i].length() <= 140, true);
            if (lines[i].matches(" {4,8}[a-zA-Z].*\\) \\{") && !lines[i].contains("class ")) {
                start = i;
            } else if (lines[i].matches(" {4,8}\\}") && start >= 0) {
                CHECK.due("the method of line " + (start + 1) + " is short", i - start <= 60, true);
                start = -1;
            }
        }
    }

    /** What divides is a constant, or stands against 0 in its method. */
    private static void divisors(String code) {
        Pattern divisor = Pattern.compile("[^/][/%]=?\\s*(\\w+(?:\\.\\w+|\\[\\w+\\])*|\\()");
        int found = 0;
        for (String method : code.split("\n {4,8}\\}\n")) {
            Matcher divisors = divisor.matcher(method);
            while (divisors.find()) {
                String name = divisors.group(1);
                boolean isTested = method.contains(name + " > 0") || method.contains(name + " == 0");
                CHECK.due("'" + divisors.group() + "' divides behind a test", name.matches("[0-9]+|[A-Z_]+") || isTested, true);
                found++;
            }
        }
        CHECK.due("divisors are found", found > 10, true);
    }

    private static void face() {
        Class<?> c = HeadCounts.class;
        CHECK.due("public and final", Modifier.isPublic(c.getModifiers()) && Modifier.isFinal(c.getModifiers()), true);
        Set<String> open = new TreeSet<>();
        for (Method m : c.getDeclaredMethods()) {
            if (Modifier.isPrivate(m.getModifiers())) {
                CHECK.due("private " + m.getName(), FACE.contains(m.getName()), false);
            } else {
                CHECK.due("public " + m.getName(), Modifier.isPublic(m.getModifiers()), true);
                open.add(m.getName());
            }
        }
        CHECK.due("the face", open.equals(FACE), true);
        for (Field f : c.getDeclaredFields()) {
            CHECK.due(f.getName(), Modifier.isPrivate(f.getModifiers()) || f.getName().equals("NONE"), true);
        }
        CHECK.due("one constructor", c.getDeclaredConstructors().length, 1);
    }

    private static void inside() {
        List<Class<?>> all = new ArrayList<>(List.of(HeadCounts.class));
        all.addAll(List.of(HeadCounts.class.getDeclaredClasses()));
        CHECK.due("some twelve classes", all.size() <= 12, true);
        for (Class<?> c : all) {
            CHECK.due(c.getName() + " is static", c == HeadCounts.class || Modifier.isStatic(c.getModifiers()), true);
            int fields = 0;
            for (Field f : c.getDeclaredFields()) {
                boolean isStatic = Modifier.isStatic(f.getModifiers());
                fields += isStatic ? 0 : 1;
                CHECK.due(f + " is final", !isStatic || Modifier.isFinal(f.getModifiers()), true);
            }
            CHECK.due(c.getName() + " has some twenty fields", fields <= 20, true);
            for (Method m : c.getDeclaredMethods()) {
                parameters(m);
                CHECK.due(c.getName() + "." + m.getName(), c != HeadCounts.class && FACE.contains(m.getName()), false);
            }
            for (Constructor<?> k : c.getDeclaredConstructors()) {
                parameters(k);
            }
        }
    }

    private static void parameters(Executable e) {
        CHECK.due(e + " takes seven at most", e.getParameterCount() <= 7, true);
    }
}
