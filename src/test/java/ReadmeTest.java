import java.io.IOException;
import java.io.StringWriter;
import java.lang.reflect.Method;
import java.lang.reflect.Modifier;
import java.net.URI;
import java.net.URL;
import java.net.URLClassLoader;
import java.nio.file.Files;
import java.nio.file.Path;
import java.util.ArrayList;
import java.util.List;
import java.util.Set;
import java.util.TreeSet;
import java.util.function.BiConsumer;
import java.util.regex.Matcher;
import java.util.regex.Pattern;
import java.util.stream.Stream;
import javax.tools.JavaCompiler;
import javax.tools.JavaFileObject;
import javax.tools.SimpleJavaFileObject;
import javax.tools.ToolProvider;

/** README.md: its examples answer what stands behind them, and it names every call and every test. */
public final class ReadmeTest {
    private static final Check check = new Check("ReadmeTest");
    private static final Path README = Path.of("README.md");
    private static final Pattern EXAMPLE = Pattern.compile("(?s)```java\n(.*?)```");
    /** A call at a line's begin, or what an int is made of, with its answer behind it. */
    private static final Pattern ANSWERED = Pattern.compile("^(int \\w+ = )?(desk\\.\\w+\\(.*\\)); +// (-?\\d+|true|false)\\b.*$");

    public static void main(String[] args) throws ReflectiveOperationException, IOException {
        String page = Files.readString(README);
        Path folder = Files.createTempDirectory("readme");
        try {
            examples(page, folder);
        } finally {
            remove(folder);
        }
        names(page);
        check.end();
    }

    private static void examples(String page, Path folder) throws ReflectiveOperationException, IOException {
        List<String> bodies = new ArrayList<>();
        int answers = 0;
        Matcher found = EXAMPLE.matcher(page);
        while (found.find()) {
            StringBuilder body = new StringBuilder();
            for (String line : found.group(1).split("\n")) {
                Matcher answered = ANSWERED.matcher(line);
                boolean hasAnswer = answered.matches();
                answers += hasAnswer ? 1 : 0;
                body.append(hasAnswer ? asked(answered) : line).append('\n');
            }
            bodies.add(body.toString());
        }
        check.due("examples are there", bodies.size() >= 3, true);
        check.due("answers stand behind their calls", answers >= 30, true);
        run(bodies, folder);
    }

    private static String asked(Matcher answered) {
        String given = answered.group(1) == null ? "" : answered.group(1);
        String call = answered.group(2);
        String told = "\"" + call.replace("\"", "\\\"") + "\"";
        return given + "Told.answer(" + told + ", " + call + ", " + answered.group(3) + ");";
    }

    private static void run(List<String> bodies, Path folder) throws ReflectiveOperationException, IOException {
        StringBuilder code = new StringBuilder("public final class Told {\n"
            + "static java.util.function.BiConsumer<String, long[]> due;\n"
            + "static int answer(String call, int got, int want) { due.accept(call, new long[] {got, want}); return got; }\n"
            + "static boolean answer(String call, boolean got, boolean want) {"
            + " due.accept(call, new long[] {got ? 1 : 0, want ? 1 : 0}); return got; }\n"
            + "public static void all(java.util.function.BiConsumer<String, long[]> given) { due = given;\n");
        for (int n = 0; n < bodies.size(); n++) {
            code.append("example").append(n).append("();\n");
        }
        code.append("}\n");
        for (int n = 0; n < bodies.size(); n++) {
            code.append("static void example").append(n).append("() {\n").append(bodies.get(n)).append("}\n");
        }
        code.append("}\n");
        if (!compile(code.toString(), folder)) {
            return;
        }
        try (URLClassLoader loader = new URLClassLoader(new URL[] {folder.toUri().toURL()}, ReadmeTest.class.getClassLoader())) {
            BiConsumer<String, long[]> due = (call, both) -> check.due("the example's " + call, both[0], both[1]);
            loader.loadClass("Told").getMethod("all", BiConsumer.class).invoke(null, due);
        }
    }

    private static boolean compile(String code, Path folder) {
        JavaCompiler compiler = ToolProvider.getSystemJavaCompiler();
        StringWriter said = new StringWriter();
        SimpleJavaFileObject source = new SimpleJavaFileObject(URI.create("string:///Told.java"), JavaFileObject.Kind.SOURCE) {
            @Override
            public CharSequence getCharContent(boolean lenient) {
                return code;
            }
        };
        List<String> options = List.of("-d", folder.toString(), "-cp", System.getProperty("java.class.path"));
        boolean fine = compiler.getTask(said, null, null, options, null, List.of(source)).call();
        check.due("the examples compile: " + said, fine, true);
        return fine;
    }

    private static void names(String page) throws IOException {
        Set<String> due = new TreeSet<>();
        for (Method method : RestoreDesk.class.getDeclaredMethods()) {
            if (Modifier.isPublic(method.getModifiers())) {
                due.add(method.getName());
            }
        }
        int from = page.indexOf("### All calls");
        int to = page.indexOf("## Tests");
        check.due("the page has its parts", from >= 0 && to > from, true);
        List<String> calls = new ArrayList<>();
        Matcher named = Pattern.compile("`(\\w+)`").matcher(page.substring(Math.max(0, from), Math.max(from, to)));
        while (named.find()) {
            calls.add(named.group(1));
        }
        check.dueName("calls that the page names", new TreeSet<>(calls).toString(), due.toString());
        check.due("each call once", calls.size(), due.size());
        try (Stream<Path> files = Files.list(Path.of("src/test/java"))) {
            for (Path file : files.sorted().toList()) {
                String name = file.getFileName().toString().replace(".java", "");
                check.due("the page names " + name, page.contains("`" + name + "`"), true);
            }
        }
    }

    private static void remove(Path folder) throws IOException {
        try (Stream<Path> files = Files.list(folder)) {
            for (Path file : files.toList()) {
                Files.delete(file);
            }
        }
        Files.delete(folder);
    }
}
