import java.util.ArrayList;
import java.util.List;
import java.util.Map;
import java.util.Set;
import java.util.regex.Matcher;
import java.util.regex.Pattern;

/** The texts of the document, read by recursive descent into a tree. */
final class SlowText {
    static final class Fault extends Exception {
        private static final long serialVersionUID = 1L;
        final int number;
        final int place;

        Fault(int number, int place) {
            super("fault " + number + " at " + place);
            this.number = number;
            this.place = place;
        }
    }

    interface Number {
        int value(Map<String, Integer> words);
    }

    static final class Tell {
        final String word;
        int rounds;
        int roundsPlace;
        final List<Number> numbers = new ArrayList<>();
        final List<Tell> inner = new ArrayList<>();

        Tell(String word) {
            this.word = word;
        }
    }

    private static final Pattern RUN = Pattern.compile("[a-z]+|[0-9]+|[^a-z0-9]", Pattern.DOTALL);
    private static final Set<String> VARS = Set.of("i", "j", "place", "line", "copies", "told");
    private static final Map<String, Integer> TELLS = Map.of("write", 2, "add", 2, "mark", 1, "fill", 0,
        "copy", 0, "upon", 1, "take", 2, "close", 1, "restore", 3, "lose", 2);

    int pages = 4;
    int size = 4;
    final List<Tell> tells = new ArrayList<>();
    private final List<String> tokens = new ArrayList<>();
    private final List<Integer> places = new ArrayList<>();
    private final List<Fault> wrongs = new ArrayList<>();
    private int at;

    static SlowText parse(String text) throws Fault {
        SlowText parsed = new SlowText();
        parsed.split(text);
        parsed.whole();
        if (!parsed.wrongs.isEmpty()) {
            throw parsed.wrongs.get(0);
        }
        return parsed;
    }

    private void split(String text) {
        Matcher runs = RUN.matcher(text);
        while (runs.find()) {
            if ("\t\n\r ".contains(runs.group())) {
                continue;
            }
            tokens.add(runs.group());
            places.add(runs.start());
        }
        tokens.add("");
        places.add(text.length());
    }

    private String now() {
        return tokens.get(at);
    }

    private boolean isInt() {
        return now().matches("[0-9]{1,4}");
    }

    private Fault syntax() {
        return new Fault(1, places.get(at));
    }

    private String step() throws Fault {
        if (at == 400) {
            throw new Fault(2, places.get(at));
        }
        return tokens.get(at++);
    }

    private void want(String token) throws Fault {
        if (!now().equals(token)) {
            throw syntax();
        }
        step();
    }

    private int bounded(int least, int most) throws Fault {
        if (!isInt()) {
            throw syntax();
        }
        int place = places.get(at);
        int value = Integer.parseInt(step());
        if (value < least || value > most) {
            wrongs.add(new Fault(5, place));
        }
        return value;
    }

    private void whole() throws Fault {
        if (now().equals("pages")) {
            step();
            pages = bounded(1, 8);
            want(";");
        }
        if (now().equals("piece")) {
            step();
            size = bounded(2, 8);
            want(";");
        }
        list(tells, 0);
        if (!now().isEmpty()) {
            throw syntax();
        }
    }

    private void list(List<Tell> into, int depth) throws Fault {
        while (true) {
            if (now().equals("do")) {
                if (depth == 3) {
                    throw new Fault(2, places.get(at));
                }
                Tell tell = new Tell(step());
                tell.rounds = bounded(0, 99);
                want(";");
                list(tell.inner, depth + 1);
                want("end");
                want(";");
                into.add(tell);
            } else if (TELLS.containsKey(now())) {
                Tell tell = new Tell(step());
                for (int n = 0; n < TELLS.get(tell.word); n++) {
                    tell.numbers.add(sum(0));
                }
                want(";");
                into.add(tell);
            } else {
                return;
            }
        }
    }

    private Number sum(int depth) throws Fault {
        Number left = part(depth);
        while (now().equals("+") || now().equals("-")) {
            Number first = left;
            boolean plus = step().equals("+");
            Number second = part(depth);
            left = words -> plus ? first.value(words) + second.value(words)
                : first.value(words) - second.value(words);
        }
        return left;
    }

    private Number part(int depth) throws Fault {
        Number left = unit(depth);
        while (now().equals("*") || now().equals("/") || now().equals("%")) {
            Number first = left;
            char sign = step().charAt(0);
            Number second = unit(depth);
            left = words -> {
                int by = second.value(words);
                int what = first.value(words);
                return sign == '*' ? what * by : by == 0 ? 0 : sign == '/' ? what / by : what % by;
            };
        }
        return left;
    }

    private Number unit(int depth) throws Fault {
        if (now().equals("(")) {
            if (depth == 6) {
                throw new Fault(2, places.get(at));
            }
            step();
            Number inner = sum(depth + 1);
            want(")");
            return inner;
        }
        if (VARS.contains(now())) {
            String word = step();
            return words -> words.get(word);
        }
        if (!isInt()) {
            throw syntax();
        }
        int value = Integer.parseInt(step());
        return words -> value;
    }
}
