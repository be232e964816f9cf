import java.io.IOException;
import java.lang.reflect.Constructor;
import java.lang.reflect.Field;
import java.lang.reflect.Method;
import java.lang.reflect.Modifier;
import java.nio.file.Files;
import java.nio.file.Path;
import java.util.ArrayList;
import java.util.HashSet;
import java.util.List;
import java.util.Set;
import java.util.TreeSet;
import java.util.regex.Matcher;
import java.util.regex.Pattern;

/** The face of the document, and those rules of LANGUAGE.md that can be seen in the file and its classes. */
public final class LanguageTest {
    private static final Check check = new Check("LanguageTest");
    private static final Path SOURCE = Path.of("src/main/java/RestoreDesk.java");
    private static final Path DOCUMENT = Path.of("../shared/DOC.md");

    public static void main(String[] args) throws IOException {
        face();
        members();
        words(stripped(Files.readString(SOURCE)));
        lengths(Files.readAllLines(SOURCE));
        check.end();
    }

    private static void face() throws IOException {
        Set<String> due = new TreeSet<>();
        Matcher lines = Pattern.compile("(?m)^    public (?:static final int NONE = -1|(\\w+ \\w+)\\((.*)\\)|RestoreDesk\\(\\));$")
            .matcher(Files.readString(DOCUMENT));
        while (lines.find()) {
            if (lines.group(1) != null) {
                due.add(lines.group(1) + "(" + lines.group(2).replaceAll("(int|boolean) \\w+", "$1") + ")");
            }
        }
        Set<String> got = new TreeSet<>();
        for (Method method : RestoreDesk.class.getDeclaredMethods()) {
            if (Modifier.isPublic(method.getModifiers())) {
                List<String> types = new ArrayList<>();
                for (Class<?> type : method.getParameterTypes()) {
                    types.add(type.getName());
                }
                got.add(method.getReturnType().getName() + " " + method.getName() + "(" + String.join(", ", types) + ")");
            }
        }
        check.due("methods of the document", due.size(), 49);
        check.dueName("the face", got.toString(), due.toString());
        check.due("the class is final", Modifier.isFinal(RestoreDesk.class.getModifiers()), true);
        check.due("constructors", RestoreDesk.class.getDeclaredConstructors().length, 1);
        for (Constructor<?> constructor : RestoreDesk.class.getDeclaredConstructors()) {
            check.due("a public constructor without arguments", Modifier.isPublic(constructor.getModifiers())
                && constructor.getParameterCount() == 0, true);
        }
    }

    private static void members() {
        Set<String> open = new HashSet<>();
        for (Method method : RestoreDesk.class.getDeclaredMethods()) {
            if (Modifier.isPublic(method.getModifiers())) {
                open.add(method.getName());
            } else {
                check.due(method.getName() + " is private", Modifier.isPrivate(method.getModifiers()), true);
            }
        }
        List<Class<?>> classes = new ArrayList<>(List.of(RestoreDesk.class.getDeclaredClasses()));
        check.due("some twelve classes at most", classes.size() < 12, true);
        classes.forEach(inner -> check.due(inner + " is static", Modifier.isStatic(inner.getModifiers()), true));
        classes.add(RestoreDesk.class);
        for (Class<?> each : classes) {
            fields(each);
            for (Method method : each.getDeclaredMethods()) {
                check.due(method + ": seven parameters at most", method.getParameterCount() <= 7, true);
                if (each != RestoreDesk.class || !Modifier.isPublic(method.getModifiers())) {
                    check.due(method + " bears no public name", open.contains(method.getName()), false);
                }
            }
        }
    }

    private static void fields(Class<?> each) {
        int own = 0;
        for (Field field : each.getDeclaredFields()) {
            int modifiers = field.getModifiers();
            boolean face = field.getName().equals("NONE") && each == RestoreDesk.class;
            check.due(field + " is private", Modifier.isPrivate(modifiers), !face);
            if (Modifier.isStatic(modifiers)) {
                check.due(field + " is final", Modifier.isFinal(modifiers), true);
                check.due(field + " has an allowed type",
                    Set.of("int", "long", "boolean", "char", "String", "int[]").contains(field.getType().getSimpleName()), true);
            } else {
                own++;
            }
        }
        check.due(each + ": some twenty fields at most", own <= 20, true);
    }

    private static String stripped(String source) {
        return source.replaceAll("(?s)/\\*.*?\\*/", " ").replaceAll("//[^\n]*", " ")
            .replaceAll("\"(\\\\.|[^\"\\\\])*\"", "\"\"").replaceAll("'(\\\\.|[^'\\\\])'", "' '");
    }

    private static void words(String code) {
        String[] banned = {"throw", "throws", "try", "catch", "finally", "synchronized", "assert", "protected", "package",
            "native", "volatile", "transient", "strictfp", "hashCode", "toString", "var", "Object", "Exception",
            "Random", "Thread", "nanoTime", "currentTimeMillis", "System.out", "printf", "format", "double", "float"};
        for (String word : banned) {
            check.due("'" + word + "' is not there",
                Pattern.compile("\\b" + Pattern.quote(word) + "\\b").matcher(code).find(), false);
        }
        check.due("no lambda", code.contains("->"), false);
        check.due("no method reference", code.contains("::"), false);
        check.due("texts are not joined by +", Pattern.compile("\"\"\\s*\\+|\\+\\s*\"\"").matcher(code).find(), false);
        check.due("no static block", Pattern.compile("\\bstatic\\s*\\{").matcher(code).find(), false);
        Matcher imports = Pattern.compile("\\bimport\\s+([\\w.*]+);").matcher(code);
        while (imports.find()) {
            check.dueName("an import", imports.group(1), "java.util.Arrays");
        }
        Matcher made = Pattern.compile("\\bnew\\s+(\\w+)").matcher(code);
        while (made.find()) {
            check.due("new " + made.group(1), Set.of("Store", "Journal", "Copies", "Outlook", "Tokens", "Grammar",
                "Runner", "StringBuilder", "int", "byte").contains(made.group(1)), true);
        }
        check.due("signs above 127", code.chars().filter(sign -> sign > 127).count(), 0);
    }

    private static void lengths(List<String> lines) {
        int begun = 0;
        String head = "";
        for (int n = 0; n < lines.size(); n++) {
            String line = lines.get(n);
            String indent = line.substring(0, line.length() - line.stripLeading().length());
            boolean inner = indent.length() == 4 || indent.length() == 8;
            if (inner && line.endsWith("{") && line.contains("(")) {
                begun = n;
                head = line.strip();
            }
            if (inner && line.strip().equals("}") && !head.isEmpty()) {
                check.due(head + " is short", n - begun <= 60, true);
            }
        }
    }
}
