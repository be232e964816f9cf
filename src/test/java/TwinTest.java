import java.lang.reflect.Method;
import java.util.HashMap;
import java.util.LinkedHashMap;
import java.util.Map;
import java.util.Random;

/** Many runs of calls on a RestoreDesk and on a SlowDesk side by side: each answer must be the same. */
public final class TwinTest {
    /**
     * The sorts of a call's arguments: c copy, l line, p place of the line ahead, k piece of the line
     * ahead, g page, w what, n number, v value, s slot, i index, b boolean.
     */
    private static final String[] CALLS = {
        "write gv", "add gv", "mark n", "fill ", "copy c", "take cg", "close c", "combine c", "drop c",
        "restore clp", "lose lk", "twice lkb", "page glp", "record lpw", "value lp", "line lw", "piece lk",
        "made cw", "source cg", "taken cg", "held cg", "would clp", "named clpi", "needs clpw", "best lp",
        "pinned lk", "dirty c", "common ll", "gaps lw", "stop lnb", "window clw", "reach l", "spare ",
        "hurts lk", "newest l", "age c", "work clp", "differ lplp", "last glp", "way li", "where nw",
        "busiest lw", "hold s", "again s", "count w", "place ", "back n", "read ", "feed vvvvv"};
    private static final int CHANGES = 12;
    private static final int QUESTIONS_END = 42;

    private static final Check check = new Check("TwinTest");
    private static final Map<String, Method> QUICK = methods(RestoreDesk.class);
    private static final Map<String, Method> SLOW = methods(SlowDesk.class);
    private static final Map<String, Integer> ANSWERS = new HashMap<>();

    private final Random random;
    private final StringBuilder log = new StringBuilder();
    private RestoreDesk quick = new RestoreDesk();
    private SlowDesk slow = new SlowDesk();
    private boolean same = true;

    private TwinTest(long seed) {
        random = new Random(seed);
    }

    private static Map<String, Method> methods(Class<?> of) {
        Map<String, Method> found = new LinkedHashMap<>();
        for (Method method : of.getDeclaredMethods()) {
            method.setAccessible(true);
            if (!method.isSynthetic()) {
                found.putIfAbsent(method.getName() + method.getParameterCount(), method);
            }
        }
        return found;
    }

    public static void main(String[] args) throws ReflectiveOperationException {
        int runs = args.length > 0 ? Integer.parseInt(args[0]) : 400;
        long first = args.length > 1 ? Long.parseLong(args[1]) : 1;
        int wrongRuns = 0;
        for (long seed = first; seed < first + runs && wrongRuns < 3; seed++) {
            TwinTest run = new TwinTest(seed);
            run.go(seed);
            check.due("run " + seed, run.same, true);
            if (!run.same) {
                wrongRuns++;
                System.out.println(run.log);
            }
        }
        for (int outcome = 0; outcome <= 5; outcome++) {
            check.due("restores came out as " + outcome, ANSWERS.getOrDefault("restore " + outcome, 0) > 0, true);
            check.due("would be " + outcome, ANSWERS.getOrDefault("would " + outcome, 0) > 0, true);
        }
        for (int fault : new int[] {0, 1, 2, 5}) {
            check.due("texts read as " + fault, ANSWERS.getOrDefault("read " + fault, 0) > 0, true);
        }
        check.end();
    }

    private void go(long seed) throws ReflectiveOperationException {
        if (seed % 4 == 0) {
            textRun();
            return;
        }
        text(head() + "\n");
        int calls = 40 + random.nextInt(400);
        int eager = random.nextInt(100);
        for (int n = 0; n < calls && same; n++) {
            int kind = random.nextInt(100);
            if (kind < 4) {
                wholeCopy();
            } else if (kind < 6) {
                restoreSomewhere();
            } else if (kind < 12 && eager > 30) {
                burst();
            } else if (kind < 45) {
                some(0, CHANGES);
            } else if (kind < 48) {
                some(QUESTIONS_END, QUESTIONS_END + 2);
            } else {
                some(CHANGES, CALLS.length - 3);
            }
            if (random.nextInt(150) == 0) {
                text(SlowTexts.any(random));
            }
        }
        everything();
    }

    private void textRun() throws ReflectiveOperationException {
        for (int n = 0; n < 30 && same; n++) {
            text(SlowTexts.any(random));
            ask("place ");
            if (n % 5 == 0) {
                some(0, QUESTIONS_END + 3);
                everything();
            }
        }
    }

    /** Asks each question for whatever is there, as far as it is not much. */
    private void everything() throws ReflectiveOperationException {
        for (int what = -1; what <= 16; what++) {
            call("count", what);
        }
        for (int n = 0; n < 3; n++) {
            for (int which = CHANGES; which < QUESTIONS_END; which++) {
                ask(CALLS[which]);
            }
        }
    }

    private String head() {
        String text = "";
        if (random.nextInt(4) > 0) {
            text += "pages " + (1 + random.nextInt(random.nextBoolean() ? 3 : 8)) + ";";
        }
        if (random.nextInt(4) > 0) {
            text += "piece " + (2 + random.nextInt(7)) + ";";
        }
        return text;
    }

    private void wholeCopy() throws ReflectiveOperationException {
        int copy = call("copy", random.nextInt(3) == 0 ? pickCopy() : -1);
        int all = random.nextInt(5) == 0 ? -2 : copy;
        for (int page = 0; page < quick.count(0); page++) {
            if (all == copy || random.nextBoolean()) {
                call("take", copy, page);
            }
            if (random.nextInt(3) == 0) {
                ask("add gv");
            }
        }
        if (random.nextInt(8) > 0) {
            call("close", copy);
        }
    }

    private void restoreSomewhere() throws ReflectiveOperationException {
        int line = pickLine();
        int place = random.nextInt(quick.line(line, 0) + 1);
        int copy = quick.best(line, place);
        call("restore", copy, line, place);
    }

    private void burst() throws ReflectiveOperationException {
        int many = random.nextInt(30);
        for (int n = 0; n < many; n++) {
            ask(random.nextInt(4) == 0 ? "mark n" : random.nextBoolean() ? "write gv" : "add gv");
        }
    }

    private void some(int from, int to) throws ReflectiveOperationException {
        ask(CALLS[from + random.nextInt(to - from)]);
    }

    private int pickLine() {
        return random.nextInt(quick.count(2));
    }

    private int pickCopy() {
        int many = quick.count(6);
        return many == 0 ? -1 : random.nextInt(many);
    }

    private void ask(String spec) throws ReflectiveOperationException {
        String[] parts = spec.split(" ", 2);
        String sorts = parts[1];
        Object[] arguments = new Object[sorts.length()];
        int line = 0;
        for (int n = 0; n < sorts.length(); n++) {
            char sort = sorts.charAt(n);
            if (sort == 'b') {
                arguments[n] = random.nextBoolean();
                continue;
            }
            int value = random.nextInt(40) == 0 ? odd() : argument(sort, line);
            line = sort == 'l' && quick.line(value, 0) >= 0 ? value : line;
            arguments[n] = value;
        }
        call(parts[0], arguments);
    }

    private int odd() {
        int[] odds = {-1, -2, 8, 9, 10, 240, 241, 120, Integer.MAX_VALUE, Integer.MIN_VALUE, 1 << 30, 31, 32, 33};
        return odds[random.nextInt(odds.length)];
    }

    private int argument(char sort, int line) {
        int tip = quick.line(line, 0);
        switch (sort) {
            case 'c': return random.nextInt(10) == 0 ? random.nextInt(11) - 1 : pickCopy();
            case 'l': return random.nextInt(2) == 0 ? quick.count(3) : pickLine();
            case 'p': return random.nextInt(4) == 0 ? tip : random.nextInt(tip + 2) - random.nextInt(2);
            case 'k': return random.nextInt(tip / quick.count(1) + 2) - random.nextInt(2);
            case 'g': return random.nextInt(quick.count(0) + (random.nextInt(20) == 0 ? 1 : 0));
            case 'w': return random.nextInt(9) - 1;
            case 'n': return random.nextInt(6) - 2;
            case 's': return random.nextInt(4) - random.nextInt(2);
            case 'i': return random.nextInt(8) - 1;
            default: return random.nextInt(10) == 0 ? random.nextInt() : random.nextInt(5);
        }
    }

    private void text(String text) throws ReflectiveOperationException {
        call("back", quick.count(8));
        byte[] bytes = text.getBytes(java.nio.charset.StandardCharsets.ISO_8859_1);
        int at = 0;
        while (at < bytes.length) {
            Object[] five = new Object[5];
            for (int k = 0; k < 5; k++) {
                int four = 0;
                for (int n = 4 * k; n < 4 * k + 4; n++) {
                    four = four << 8 | (at + n < bytes.length ? bytes[at + n] & 255 : ' ');
                }
                five[k] = four;
            }
            call("feed", five);
            at += 20;
        }
        call("back", at - bytes.length);
        log.append("    ").append(text).append('\n');
        call("read");
        call("place");
        call("count", 11);
    }

    private int call(String name, Object... arguments) throws ReflectiveOperationException {
        String key = name + arguments.length;
        Object got = QUICK.get(key).invoke(quick, arguments);
        Object want = SLOW.get(key).invoke(slow, arguments);
        log.append(name).append(java.util.Arrays.toString(arguments)).append(" = ").append(got).append('\n');
        if (!got.equals(want) && same) {
            same = false;
            log.append("^ due is ").append(want).append('\n');
        }
        ANSWERS.merge(name + " " + got, 1, Integer::sum);
        return got instanceof Integer ? (Integer) got : (Boolean) got ? 1 : 0;
    }
}
