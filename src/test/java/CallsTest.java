import java.io.File;
import java.io.PrintWriter;
import java.io.StringWriter;
import java.net.URISyntaxException;
import java.util.ArrayList;
import java.util.HashMap;
import java.util.HashSet;
import java.util.List;
import java.util.Map;
import java.util.Set;
import java.util.TreeMap;
import java.util.TreeSet;
import java.util.regex.Matcher;
import java.util.regex.Pattern;
import java.util.spi.ToolProvider;

/** LANGUAGE.md, rules 4 and 11: how deep calls go, and which of the library's functions are called, by the compiled classes. */
public final class CallsTest {
    private static final Check check = new Check("CallsTest");
    private static final Pattern CLASS = Pattern.compile("^[a-z ]*class (RestoreDesk[\\w$]*)");
    private static final Pattern METHOD = Pattern.compile("^  (?:[\\w\\[\\].$ ]+ )?([\\w$]+)\\(.*\\);$");
    private static final Pattern CALL = Pattern.compile("invoke\\w+\\s+#\\d+(?:,\\s+\\d+)?\\s+// (?:Interface)?Method ([^:]+):");
    private static final Set<String> LIBRARY = Set.of("java/lang/Object.<init>", "java/lang/StringBuilder.<init>",
        "java/lang/StringBuilder.append", "java/lang/StringBuilder.setLength", "java/lang/StringBuilder.length",
        "java/lang/StringBuilder.charAt", "java/lang/String.charAt", "java/lang/String.indexOf", "java/lang/Math.max",
        "java/lang/Math.min", "java/lang/Integer.bitCount", "java/lang/System.arraycopy", "java/util/Arrays.fill");

    private static final Map<String, Set<String>> calls = new TreeMap<>();
    private static final Map<String, Integer> depths = new HashMap<>();

    public static void main(String[] args) throws URISyntaxException {
        String code = disassembled();
        gather(code);
        check.due("methods are found", calls.size() > 100, true);
        for (String method : new TreeSet<>(calls.keySet())) {
            check.due(method + " goes eight deep at most: " + depth(method, new HashSet<>()), depth(method, new HashSet<>()) <= 8, true);
        }
        check.end();
    }

    private static String disassembled() throws URISyntaxException {
        File folder = new File(RestoreDesk.class.getProtectionDomain().getCodeSource().getLocation().toURI());
        List<String> arguments = new ArrayList<>(List.of("-c", "-p"));
        for (String name : folder.list()) {
            if (name.matches("RestoreDesk(\\$\\w+)?\\.class")) {
                arguments.add(new File(folder, name).getPath());
            }
        }
        StringWriter text = new StringWriter();
        ToolProvider javap = ToolProvider.findFirst("javap").orElseThrow();
        javap.run(new PrintWriter(text), new PrintWriter(text), arguments.toArray(new String[0]));
        return text.toString();
    }

    private static void gather(String code) {
        String within = "";
        String method = "";
        for (String line : code.split("\n")) {
            Matcher found = CLASS.matcher(line);
            if (found.find()) {
                within = found.group(1);
            }
            found = METHOD.matcher(line);
            if (found.find()) {
                method = within + "." + (found.group(1).equals(within) ? "<init>" : found.group(1));
                calls.putIfAbsent(method, new TreeSet<>());
            }
            found = CALL.matcher(line);
            if (found.find()) {
                String called = found.group(1).replace("\"", "");
                called = called.contains(".") ? called : within + "." + called;
                if (called.startsWith("RestoreDesk")) {
                    calls.get(method).add(called);
                } else {
                    check.due("the library's " + called + " is let be called", LIBRARY.contains(called), true);
                }
            }
        }
    }

    /** How many methods stand open at once; a recursion counts once. */
    private static int depth(String method, Set<String> open) {
        if (!open.add(method)) {
            return 0;
        }
        int deepest = depths.getOrDefault(method, 0);
        if (deepest == 0) {
            for (String called : calls.getOrDefault(method, Set.of())) {
                deepest = Math.max(deepest, depth(called, open));
            }
            deepest++;
            depths.put(method, deepest);
        }
        open.remove(method);
        return deepest;
    }
}
