import java.io.ByteArrayOutputStream;
import java.io.IOException;
import java.io.OutputStream;
import java.io.PrintStream;
import java.io.StringWriter;
import java.net.URI;
import java.nio.file.Files;
import java.nio.file.Path;
import java.util.ArrayList;
import java.util.HashMap;
import java.util.List;
import java.util.Map;
import java.util.concurrent.ExecutorService;
import java.util.concurrent.Executors;
import java.util.concurrent.Future;
import java.util.regex.Matcher;
import java.util.regex.Pattern;
import java.util.stream.Stream;
import javax.tools.FileObject;
import javax.tools.ForwardingJavaFileManager;
import javax.tools.JavaCompiler;
import javax.tools.JavaFileManager;
import javax.tools.JavaFileObject;
import javax.tools.SimpleJavaFileObject;
import javax.tools.ToolProvider;

/**
 * Breaks the program in one place at a time, and tells which breaks a test lets pass. It is no test and CI does not run
 * it: most breaks that pass change no answer, and which do not is for somebody to judge. Its arguments are the folder of
 * the compiled tests, the project's folder, and the test.
 */
public final class Mutants {
    private static final Pattern SIGNS = Pattern.compile(
        "\"[^\"]*\"|'[^']*'|//.*|\\b\\d+\\b|<=|>=|==|!=|&&|\\|\\||<<|>>|\\+\\+|--|\\+=|-=|[<>+\\-*/%&|]|\\btrue\\b|\\bfalse\\b");
    private static final Map<String, String> OTHERS = Map.ofEntries(Map.entry("<", "<="), Map.entry("<=", "<"), Map.entry(">", ">="),
        Map.entry(">=", ">"), Map.entry("==", "!="), Map.entry("!=", "=="), Map.entry("&&", "||"), Map.entry("||", "&&"),
        Map.entry("+", "-"), Map.entry("-", "+"), Map.entry("*", "+"), Map.entry("/", "*"), Map.entry("%", "*"), Map.entry("&", "|"),
        Map.entry("|", "&"), Map.entry("true", "false"), Map.entry("false", "true"), Map.entry("+=", "-="), Map.entry("-=", "+="));
    private static final Pattern CONDITION = Pattern.compile("^(\\s*(?:\\} else )?if \\()(.*)(\\) \\{)$");
    private static final Pattern STATEMENT = Pattern.compile("^\\s*(?!return|private|final|static|public|int |long |boolean |case).*;$");
    private static final long MILLISECONDS = 60_000;

    private final Map<String, byte[]> tests = new HashMap<>();
    private final String root;
    private final String test;

    private Mutants(Path classes, String root, String test) throws IOException {
        this.root = root;
        this.test = test;
        try (Stream<Path> files = Files.list(classes)) {
            for (Path file : (Iterable<Path>) files::iterator) {
                String name = file.getFileName().toString();
                if (name.endsWith(".class") && !name.startsWith("HeadCounts")) {
                    tests.put(name.substring(0, name.length() - 6), Files.readAllBytes(file));
                }
            }
        }
    }

    private record Mutant(int line, String text, String what) { }

    private static final class Source extends SimpleJavaFileObject {
        private final String text;

        Source(String text) {
            super(URI.create("string:///HeadCounts.java"), Kind.SOURCE);
            this.text = text;
        }

        @Override
        public CharSequence getCharContent(boolean isErrorIgnored) {
            return text;
        }
    }

    private static final class Compiled extends SimpleJavaFileObject {
        private final ByteArrayOutputStream bytes = new ByteArrayOutputStream();

        Compiled(String name) {
            super(URI.create("mem:///" + name + ".class"), Kind.CLASS);
        }

        @Override
        public OutputStream openOutputStream() {
            return bytes;
        }
    }

    private static final class Memory extends ForwardingJavaFileManager<JavaFileManager> {
        private final Map<String, Compiled> all = new HashMap<>();

        Memory(JavaFileManager files) {
            super(files);
        }

        @Override
        public JavaFileObject getJavaFileForOutput(Location place, String name, JavaFileObject.Kind kind, FileObject beside) {
            return all.computeIfAbsent(name, Compiled::new);
        }
    }

    /** Each mutant has a program and tests of its own, so that none sees what another left. */
    private static final class Loader extends ClassLoader {
        private final Map<String, Compiled> program;
        private final Map<String, byte[]> tests;

        Loader(Map<String, Compiled> program, Map<String, byte[]> tests) {
            super(ClassLoader.getPlatformClassLoader());
            this.program = program;
            this.tests = tests;
        }

        @Override
        protected Class<?> findClass(String name) throws ClassNotFoundException {
            byte[] bytes = program.containsKey(name) ? program.get(name).bytes.toByteArray() : tests.get(name);
            if (bytes == null) {
                throw new ClassNotFoundException(name);
            }
            return defineClass(name, bytes, 0, bytes.length);
        }
    }

    @SuppressWarnings({"deprecation", "removal"})
    private String fateOf(String text) throws InterruptedException {
        JavaCompiler compiler = ToolProvider.getSystemJavaCompiler();
        Memory memory = new Memory(compiler.getStandardFileManager(null, null, null));
        if (!compiler.getTask(new StringWriter(), memory, d -> { }, List.of("-proc:none"), null, List.of(new Source(text))).call()) {
            return "no program";
        }
        String[] fate = {"no end"};
        Thread thread = new Thread(() -> {
            try {
                new Loader(memory.all, tests).loadClass(test).getMethod("main", String[].class).invoke(null, (Object) new String[] {root});
                fate[0] = "passes";
            } catch (ReflectiveOperationException | LinkageError e) {
                fate[0] = "found";
            }
        });
        thread.setDaemon(true);
        thread.start();
        thread.join(MILLISECONDS);
        if (thread.isAlive()) {
            thread.stop();
        }
        return fate[0];
    }

    private static List<Mutant> allOf(String[] lines) {
        List<Mutant> out = new ArrayList<>();
        for (int i = 0; i < lines.length; i++) {
            String line = lines[i];
            if (!line.trim().matches("(/\\*|\\*|//|import).*")) {
                addSigns(out, i, line);
                Matcher condition = CONDITION.matcher(line);
                if (condition.matches()) {
                    out.add(new Mutant(i, condition.replaceFirst("$1!($2)$3"), "not so"));
                    out.add(new Mutant(i, condition.replaceFirst("$1false && ($2)$3"), "never"));
                    out.add(new Mutant(i, condition.replaceFirst("$1true || ($2)$3"), "always"));
                }
                if (STATEMENT.matcher(line).matches()) {
                    out.add(new Mutant(i, "", "left out"));
                }
            }
        }
        return out;
    }

    private static void addSigns(List<Mutant> out, int number, String line) {
        Matcher sign = SIGNS.matcher(line);
        while (sign.find()) {
            String now = sign.group();
            List<String> others = new ArrayList<>();
            if (now.matches("\\d+")) {
                long value = Long.parseLong(now);
                others.add("" + (value + 1));
                others.add("" + Math.max(0, value - 1));
            } else if (OTHERS.containsKey(now)) {
                others.add(OTHERS.get(now));
            }
            for (String other : others) {
                if (!other.equals(now)) {
                    out.add(new Mutant(number, line.substring(0, sign.start()) + other + line.substring(sign.end()), now + " as " + other));
                }
            }
        }
    }

    public static void main(String[] args) throws Exception {
        if (args.length != 3) {
            System.out.println("java -Dcheck.stops=true -cp OUT Mutants OUT PROJECT TEST");
            return;
        }
        Mutants mutants = new Mutants(Path.of(args[0]), args[1], args[2]);
        PrintStream out = System.out;
        System.setOut(new PrintStream(OutputStream.nullOutputStream()));
        String text = Files.readString(Path.of(args[1], "src", "main", "java", "HeadCounts.java"));
        out.println("the program as it is: " + mutants.fateOf(text));
        String[] lines = text.split("\n", -1);
        ExecutorService threads = Executors.newFixedThreadPool(Runtime.getRuntime().availableProcessors());
        List<Mutant> all = allOf(lines);
        List<Future<String>> fates = new ArrayList<>();
        for (Mutant mutant : all) {
            fates.add(threads.submit(() -> {
                String[] broken = lines.clone();
                broken[mutant.line] = mutant.text;
                return mutants.fateOf(String.join("\n", broken));
            }));
        }
        Map<String, Integer> many = new HashMap<>();
        for (int i = 0; i < all.size(); i++) {
            String fate = fates.get(i).get();
            many.merge(fate, 1, Integer::sum);
            if (fate.equals("passes") || fate.equals("no end")) {
                Mutant mutant = all.get(i);
                out.println(fate + ": line " + (mutant.line + 1) + ", " + mutant.what + ": " + lines[mutant.line].trim());
            }
        }
        out.println(many);
        System.exit(0);
    }
}
