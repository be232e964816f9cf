import java.nio.charset.StandardCharsets;
import java.util.function.Supplier;
import java.util.function.ToLongFunction;

/** What the tests share: answers that are due, and texts put on the tape. */
final class Check {
    private final String test;
    private String words = "";
    private int asked;
    private int wrong;

    Check(String test) {
        this.test = test;
    }

    /** The words of the document by which the answers that follow are due (DocumentTest reads them, too). */
    void words(String ofTheDocument) {
        words = " (" + ofTheDocument + ")";
    }

    void due(String what, long got, long want) {
        asked++;
        if (got != want) {
            wrong++;
            System.out.println(test + words + ": " + what + " answered " + got + ", due is " + want);
        }
    }

    void due(String what, boolean got, boolean want) {
        due(what, got ? 1 : 0, want ? 1 : 0);
    }

    void dueName(String what, String got, String want) {
        asked++;
        if (!got.equals(want)) {
            wrong++;
            System.out.println(test + words + ": " + what + " answered '" + got + "', due is '" + want + "'");
        }
    }

    /** A call that answers so, and behind which all is as it was. */
    void nothing(String what, Supplier<RestoreDesk> made, ToLongFunction<RestoreDesk> call, long want) {
        due(what, call.applyAsLong(made.get()), want);
        unchanged(what, made, call);
    }

    void unchanged(String what, Supplier<RestoreDesk> made, ToLongFunction<RestoreDesk> call) {
        same(what + ", and nothing happens", Picture.of(() -> {
            RestoreDesk desk = made.get();
            call.applyAsLong(desk);
            return desk;
        }), Picture.of(made));
    }

    /** Two pictures are the same; else the first line that is not is told. */
    void same(String what, String got, String want) {
        String[] gotLines = got.split("\n");
        String[] wantLines = want.split("\n");
        int at = 0;
        while (at < gotLines.length && at < wantLines.length && gotLines[at].equals(wantLines[at])) {
            at++;
        }
        dueName(what, at < gotLines.length ? gotLines[at] : "", at < wantLines.length ? wantLines[at] : "");
    }

    /** Ends the test: with exit code 1 if an answer was not the one that is due. */
    void end() {
        System.out.println(test + ": " + (asked - wrong) + " of " + asked + " answers as due");
        if (wrong != 0 || asked == 0) {
            System.exit(1);
        }
    }

    static long bit(boolean answer) {
        return answer ? 1 : 0;
    }

    static void put(RestoreDesk desk, String text) {
        byte[] bytes = text.getBytes(StandardCharsets.ISO_8859_1);
        int at = 0;
        while (at < bytes.length) {
            int[] fives = new int[5];
            for (int n = 0; n < 20; n++) {
                int sign = at + n < bytes.length ? bytes[at + n] & 255 : ' ';
                fives[n / 4] = fives[n / 4] << 8 | sign;
            }
            desk.feed(fives[0], fives[1], fives[2], fives[3], fives[4]);
            at += 20;
        }
        desk.back(at - bytes.length);
    }

    static int read(RestoreDesk desk, String text) {
        put(desk, text);
        return desk.read();
    }

    static RestoreDesk deskOf(String text) {
        RestoreDesk desk = new RestoreDesk();
        int fault = read(desk, text);
        if (fault != 0) {
            throw new IllegalArgumentException("fault " + fault + " at " + desk.place() + " of " + text);
        }
        return desk;
    }

    static String named(RestoreDesk desk, int copy, int line, int place) {
        StringBuilder name = new StringBuilder();
        for (int i = 0; i < 20; i++) {
            int sign = desk.named(copy, line, place, i);
            if (sign == RestoreDesk.NONE) {
                break;
            }
            name.append((char) sign);
        }
        return name.toString();
    }
}
