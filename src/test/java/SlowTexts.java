import java.util.Random;

/** Texts made by chance: fine ones, and fine ones with a fault put in. */
final class SlowTexts {
    private static final String[] WORDS = {"pages", "piece", "write", "add", "mark", "fill", "copy", "upon",
        "take", "close", "restore", "lose", "do", "end", "i", "j", "place", "line", "copies", "told", "drop",
        ";", "+", "-", "*", "/", "%", "(", ")", "12345", "0", "7", "?", "\u00e9", "writes", "abcdefghi"};
    private static final String[] VARS = {"i", "j", "place", "line", "copies", "told"};
    private static final String[] BLANKS = {" ", " ", " ", "\n", "\t", "\r", "  "};

    private final Random random;
    private final StringBuilder text = new StringBuilder();

    private SlowTexts(Random random) {
        this.random = random;
    }

    static String any(Random random) {
        SlowTexts made = new SlowTexts(random);
        made.head();
        made.tells(1 + random.nextInt(random.nextInt(4) == 0 ? 60 : 12), 0);
        String text = made.text.toString();
        int faults = random.nextInt(3) == 0 ? 1 + random.nextInt(2) : 0;
        for (int n = 0; n < faults; n++) {
            text = broken(text, random);
        }
        return text.length() > 2000 ? text.substring(0, 2000) : text;
    }

    private static String broken(String text, Random random) {
        int at = random.nextInt(text.length() + 1);
        switch (random.nextInt(4)) {
            case 0: return text.substring(0, at);
            case 1: return text.substring(0, at) + text.substring(Math.min(text.length(), at + 1 + random.nextInt(3)));
            case 2: return text.substring(0, at) + (char) random.nextInt(256) + text.substring(at);
            default: return text.substring(0, at) + " " + WORDS[random.nextInt(WORDS.length)] + " " + text.substring(at);
        }
    }

    private SlowTexts put(String token) {
        text.append(token);
        text.append(BLANKS[random.nextInt(BLANKS.length)]);
        return this;
    }

    private void head() {
        if (random.nextInt(3) > 0) {
            put("pages").put("" + (random.nextInt(20) == 0 ? random.nextInt(12) : 1 + random.nextInt(3))).put(";");
        }
        if (random.nextInt(3) > 0) {
            put("piece").put("" + (random.nextInt(20) == 0 ? random.nextInt(12) : 2 + random.nextInt(7))).put(";");
        }
    }

    private void tells(int many, int depth) {
        for (int n = 0; n < many; n++) {
            tell(depth);
        }
    }

    private void tell(int depth) {
        switch (random.nextInt(14)) {
            case 0: case 1: put("write"); sum(0); sum(0); break;
            case 2: case 3: put("add"); sum(0); sum(0); break;
            case 4: put("mark"); sum(0); break;
            case 5: put("fill"); break;
            case 6: put("copy"); break;
            case 7: put("upon"); sum(0); break;
            case 8: case 9: put("take"); sum(0); sum(0); break;
            case 10: put("close"); sum(0); break;
            case 11: put("restore"); sum(0); sum(0); sum(0); break;
            case 12: put("lose"); sum(0); sum(0); break;
            default: rounds(depth); return;
        }
        put(";");
    }

    private void rounds(int depth) {
        if (depth == 3 && random.nextInt(10) > 0) {
            put("fill").put(";");
            return;
        }
        put("do").put("" + (random.nextInt(60) == 0 ? 90 + random.nextInt(20) : random.nextInt(9))).put(";");
        tells(random.nextInt(4), depth + 1);
        put("end").put(";");
    }

    private void sum(int depth) {
        int parts = random.nextInt(3) == 0 ? 2 + random.nextInt(2) : 1;
        for (int n = 0; n < parts; n++) {
            if (n > 0) {
                put("" + "+-*/%".charAt(random.nextInt(5)));
            }
            unit(depth);
        }
    }

    private void unit(int depth) {
        int kind = random.nextInt(12);
        if (kind == 0 && (depth < 6 || random.nextInt(5) == 0)) {
            put("(");
            sum(depth + 1);
            put(")");
        } else if (kind < 4) {
            put(VARS[random.nextInt(VARS.length)]);
        } else {
            put("" + (random.nextInt(15) == 0 ? random.nextInt(10000) : random.nextInt(4)));
        }
    }
}
