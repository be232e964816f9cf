import java.util.List;
import java.util.Set;
import java.util.TreeSet;

/** The document's part I and promises 1 to 5, sentence by sentence. */
public final class EdgeTextsTest {
    private static final Check check = new Check("EdgeTextsTest");
    private static final String BLANKS = "\t\n\r ";
    private static final String SIGNS = ";+-*/%()";
    private static final List<String> VARS = List.of("i", "j", "place", "line", "copies", "told");
    private static final List<String> HEADS = List.of("pages", "piece");
    private static final List<String> TELLS = List.of("write", "add", "mark", "fill", "copy", "upon", "take", "close",
        "restore", "lose");
    private static final int[] NUMBERS = {2, 2, 1, 0, 0, 1, 2, 1, 3, 2};

    public static void main(String[] args) {
        uses();
        longestText();
        blanks();
        longestTokens();
        lengths();
        everyWord();
        everySign();
        heads();
        tells();
        sums();
        whatGoesOn();
        pagesAndPieces();
        rounds();
        wraps();
        divisions();
        ij();
        placeLineCopies();
        told();
        tellsAreCalls();
        threeHundred();
        firstFault();
        textEnd();
        tokens401();
        fourthDo();
        seventhBracket();
        wrongNumbers();
        faultsChangeNothing();
        newStore();
        newObject();
        feed();
        feedTooMuch();
        back();
        backTooMuch();
        read();
        place();
        check.end();
    }

    private static void fault(String text, int fault, int place) {
        RestoreDesk desk = new RestoreDesk();
        check.due("read of '" + text + "'", Check.read(desk, text), fault);
        check.due("place of '" + text + "'", desk.place(), place);
    }

    private static void fine(String text) {
        fault(text, 0, -1);
    }

    private static long numberOf(String expression) {
        return Check.deskOf("mark " + expression + ";").record(0, 1, 1);
    }

    private static void number(String expression, long want) {
        check.due(expression, numberOf(expression), want);
    }

    private static void uses() {
        check.words("An object is used for at most 512 calls after it has been made; what later calls answer is free.");
        RestoreDesk desk = new RestoreDesk();
        for (int n = 1; n <= 240; n++) {
            check.due("call " + n, desk.mark(n), n);
        }
        for (int n = 241; n < 512; n++) {
            check.due("call " + n, desk.record(0, n % 240 + 1, 1), n % 240 + 1);
        }
        check.due("call 512", desk.count(4), 240);
        desk.count(4);
        desk.mark(1);
    }

    private static void longestText() {
        check.words("A TEXT has 2,000 bytes at most.");
        RestoreDesk desk = new RestoreDesk();
        check.due("a text of 2,000 bytes", Check.read(desk, " ".repeat(1993) + "mark 7;"), 0);
        check.due("its mark", desk.record(0, 1, 1), 7);
        fault(" ".repeat(1999) + "?", 1, 1999);
        fault(" ".repeat(1995) + "fill;", 0, -1);
        fault(" ".repeat(1996) + "fill", 1, 2000);
        fault("fill;".repeat(400), 2, 1000);
    }

    private static void blanks() {
        check.words("TOKENS, the longest that can be, with blanks (9, 10, 13, 32) between or not:");
        for (int sign = 0; sign < 256; sign++) {
            char c = (char) sign;
            boolean blank = BLANKS.indexOf(c) >= 0;
            boolean letter = c >= 'a' && c <= 'z';
            fault(c + "fill;", blank ? 0 : 1, blank ? -1 : 0);
            fault("fill" + c + ";", blank ? 0 : 1, blank ? -1 : letter ? 0 : c == ';' ? 5 : 4);
            fault("fill;" + c, blank ? 0 : 1, blank ? -1 : 5);
        }
        fine("pages2;piece2;write(0)1;mark(1)*2;fill;do2;end;");
        fine("\t\n\r pages\t\n\r 2\t\n\r ;\t\n\r piece\t\n\r 2\t\n\r ;\t\n\r ");
        fine("");
        fine(BLANKS);
    }

    private static void longestTokens() {
        number("12", 12);
        number("1\n", 1);
        fault("mark 1 2;", 1, 7);
        fine("write 1 2;");
        fault("write 12;", 1, 8);
        fault("mark ij;", 1, 5);
        fine("write i j;");
        fine("write 1i;");
        fine("write i1;");
        fine("mark1;");
        fault("doend;", 1, 0);
        fault("do1end;", 1, 3);
        fine("do1;end;");
        fault("fillfill;", 1, 0);
        fault("fil l;", 1, 0);
        fault("mark 1 2345;", 1, 7);
        fault("mark pla ce;", 1, 5);
    }

    private static void lengths() {
        check.words("WORDS (those in quotes; letters a .. z, 8 at most), INTS (1 to 4 digits), SIGNS ; + - * / % ( ) ."
            + " A longer one, all else, is no TOKEN.");
        number("9", 9);
        number("98", 98);
        number("987", 987);
        number("9876", 9876);
        number("0009", 9);
        number("0000", 0);
        fault("mark 98765;", 1, 5);
        fault("mark 00009;", 1, 5);
        fault("mark 1234567890123;", 1, 5);
        fault("pages 00004;", 1, 6);
        fault("abcdefgh;", 1, 0);
        fault("abcdefghi;", 1, 0);
        fault("restorex 0 0 0;", 1, 0);
        fault("restorexy 0 0 0;", 1, 0);
        fault("mark copiesto;", 1, 5);
        fault("mark copiestoo;", 1, 5);
    }

    private static void everyWord() {
        for (int which = 0; which < TELLS.size(); which++) {
            String word = TELLS.get(which);
            String rest = " 0".repeat(NUMBERS[which]) + ";";
            fine(word + rest);
            fault(word.substring(0, word.length() - 1) + rest, 1, 0);
            fault("x" + word.substring(1) + rest, 1, 0);
            fault(word + "s" + rest, 1, 0);
            fault(word.toUpperCase() + rest, 1, 0);
        }
        for (String head : HEADS) {
            fine(head + " 2;");
            fault(head.substring(0, 4) + " 2;", 1, 0);
            fault(head + "s 2;", 1, 0);
        }
        for (String variable : VARS) {
            fine("mark " + variable + ";");
            fault("mark " + variable + "s;", 1, 5);
            fault("mark " + variable.toUpperCase() + ";", 1, 5);
        }
        fine("do 1; end;");
        fault("d 1; end;", 1, 0);
        fault("dos 1; end;", 1, 0);
        fault("do 1; en;", 1, 6);
        fault("do 1; ends;", 1, 6);
        for (String none : new String[] {"drop", "twice", "combine", "hold", "again", "read", "k", "none"}) {
            fault(none + " 0;", 1, 0);
        }
    }

    private static void everySign() {
        for (int sign = 0; sign < 256; sign++) {
            char c = (char) sign;
            if (BLANKS.indexOf(c) >= 0) {
                fault("mark 1 " + c + " 1;", 1, 9);
            } else if ("+-*/%".indexOf(c) >= 0) {
                fine("mark 1 " + c + " 1;");
            } else {
                fault("mark 1 " + c + " 1;", 1, c == ';' ? 9 : 7);
            }
        }
        fine("mark (1+2-3*4/5%6);");
    }

    private static void heads() {
        check.words("text: ['pages' INT ';'] ['piece' INT ';'] {TELL}.");
        fine("pages 2;");
        fine("piece 2;");
        fine("pages 2; piece 2;");
        fine("pages 2; piece 2; fill; fill;");
        fault("piece 2; pages 2;", 1, 9);
        fault("pages 2; pages 2;", 1, 9);
        fault("piece 2; piece 2;", 1, 9);
        fault("fill; pages 2;", 1, 6);
        fault("fill; piece 2;", 1, 6);
        fault("do 1; pages 2; end;", 1, 6);
        fault("pages (2);", 1, 6);
        fault("piece i;", 1, 6);
    }

    private static void tells() {
        check.words("TELL: 'write' E E ';' | 'add' E E ';' | 'mark' E ';' | 'fill' ';' | 'copy' ';' | 'upon' E ';'"
            + " | 'take' E E ';' | 'close' E ';' | 'restore' E E E ';' | 'lose' E E ';' | 'do' INT ';' {TELL} 'end' ';'.");
        for (int which = 0; which < TELLS.size(); which++) {
            String whole = TELLS.get(which) + " 1".repeat(NUMBERS[which]);
            fine(whole + ";");
            fault(whole + " 1;", 1, whole.length() + 1);
            fault(whole + " (1);", 1, whole.length() + 1);
            if (NUMBERS[which] > 0) {
                fault(whole.substring(0, whole.length() - 2) + ";", 1, whole.length() - 2);
                fault(whole.substring(0, whole.length() - 1) + "-1;", 1, whole.length() - (NUMBERS[which] > 1 ? -1 : 1));
            }
        }
        fine("do 1; fill; copy; end; fill;");
        fine("do 1; end;");
        fault("do 1; do 1; end;", 1, 16);
        fault("end;", 1, 0);
    }

    private static void sums() {
        check.words("E: PART {('+' | '-') PART}. PART: UNIT {('*' | '/' | '%') UNIT}. UNIT: INT | VAR | '(' E ')'."
            + " VAR: 'i' | 'j' | 'place' | 'line' | 'copies' | 'told'.");
        number("2+3*4", 14);
        number("(2+3)*4", 20);
        number("2*3+4", 10);
        number("20-3-4", 13);
        number("20-(3-4)", 21);
        number("100/10/5", 2);
        number("100/(10/5)", 50);
        number("17%10%4", 3);
        number("17%10*2", 14);
        number("2*17%10", 4);
        number("1-2*3-4", -9);
        number("((7))", 7);
        fault("mark -1;", 1, 5);
        fault("mark +1;", 1, 5);
        fault("mark 1+;", 1, 7);
        fault("mark 1+-1;", 1, 7);
        fault("mark 1**1;", 1, 7);
        fault("mark ();", 1, 6);
        fault("mark (1;", 1, 7);
        fault("mark 1);", 1, 6);
        fault("mark (1 1);", 1, 8);
    }

    /** Behind each beginning of a text: with what it goes on; with all else it has a fault at once. */
    private static void whatGoesOn() {
        check.words("1 SYNTAX: a TOKEN, or what is none, with which no text goes on.");
        String unit = "7 ( i j place line copies told ";
        String more = "+ - * / % ";
        String begin = String.join(" ", TELLS) + " do ";
        String[][] rows = {
            {"", "pages piece END " + begin}, {"pages", "7"}, {"pages 2", ";"}, {"pages 2;", "piece END " + begin},
            {"piece", "7"}, {"piece 2", ";"}, {"piece 2;", "END " + begin}, {"pages 2; piece 2;", "END " + begin},
            {"fill", ";"}, {"fill;", "END " + begin}, {"copy", ";"}, {"mark", unit}, {"mark 1", more + ";"},
            {"mark i", more + ";"}, {"mark 1 +", unit}, {"mark 1 *", unit}, {"mark (", unit}, {"mark ((", unit},
            {"mark (1", more + ")"}, {"mark ((1)", more + ")"}, {"mark (1)", more + ";"}, {"upon", unit}, {"upon 1", more + ";"},
            {"close", unit}, {"close 1", more + ";"}, {"write", unit}, {"write 1", more + unit}, {"write (1)", more + unit},
            {"write 1 2", more + ";"}, {"add", unit}, {"add 1", more + unit}, {"add 1 2", more + ";"}, {"take", unit},
            {"take 1", more + unit}, {"take 1 2", more + ";"}, {"lose", unit}, {"lose 1", more + unit}, {"lose 1 2", more + ";"},
            {"restore", unit}, {"restore 1", more + unit}, {"restore 1 2", more + unit}, {"restore 1 2 3", more + ";"},
            {"do", "7"}, {"do 1", ";"}, {"do 1;", "end " + begin}, {"do 1; fill;", "end " + begin}, {"do 1; end", ";"},
            {"do 1; end;", "END " + begin}, {"do 1; do 1;", "end " + begin}, {"do 1; do 1; end;", "end " + begin}};
        Set<String> tokens = new TreeSet<>(List.of("pages", "piece", "do", "end", "7", "?", "12345", "abcdefghi", "x", "Fill"));
        tokens.addAll(TELLS);
        tokens.addAll(VARS);
        for (char sign : SIGNS.toCharArray()) {
            tokens.add("" + sign);
        }
        for (String[] row : rows) {
            Set<String> fits = Set.of(row[1].trim().split(" "));
            boolean mayEnd = fits.contains("END");
            fault(row[0], mayEnd ? 0 : 1, mayEnd ? -1 : row[0].length());
            for (String token : tokens) {
                RestoreDesk desk = new RestoreDesk();
                int fault = Check.read(desk, row[0] + " " + token);
                boolean atOnce = fault == 1 && desk.place() == row[0].length() + 1;
                check.due("'" + row[0] + "' and " + token + " is a fault at once", atOnce, !fits.contains(token));
            }
        }
    }

    private static void pagesAndPieces() {
        check.words("PAGES 1 .. 8 (4), numbered from 0 on; a PIECE has 2 .. 8 RECORDS (4).");
        for (int pages = 1; pages <= 8; pages++) {
            RestoreDesk desk = Check.deskOf("pages " + pages + ";");
            check.due("pages", desk.count(0), pages);
            check.due("a piece has", desk.count(1), 4);
            check.due("page -1", desk.write(-1, 5), -1);
            check.due("page 0", desk.write(0, 5), 1);
            check.due("the last page", desk.write(pages - 1, 6), 2);
            check.due("a page too many", desk.write(pages, 5), -1);
        }
        for (int size = 2; size <= 8; size++) {
            RestoreDesk desk = Check.deskOf("piece " + size + "; do " + (size - 1) + "; mark 1; end;");
            check.due("pages", desk.count(0), 4);
            check.due("a piece has", desk.count(1), size);
            check.due("not full", desk.piece(0, 0), 0);
            desk.mark(1);
            check.due("full", desk.piece(0, 0), 1);
        }
        check.due("pages without", Check.deskOf("").count(0), 4);
        check.due("piece without", Check.deskOf("").count(1), 4);
        fault("pages 0;", 5, 6);
        fault("pages 9;", 5, 6);
        fault("piece 1;", 5, 6);
        fault("piece 9;", 5, 6);
    }

    private static void rounds() {
        check.words("DO: 0 .. 99 rounds, within one another 3 at most.");
        check.due("0 rounds", Check.deskOf("do 0; mark 1; end;").count(14), 0);
        check.due("1 round", Check.deskOf("do 1; mark 1; end;").count(14), 1);
        check.due("99 rounds", Check.deskOf("do 99; mark 1; end;").count(14), 99);
        check.due("rounds within 0 rounds", Check.deskOf("do 0; do 5; mark 1; end; mark 1; end; mark 2;").count(14), 1);
        check.due("0 rounds within rounds", Check.deskOf("do 3; do 0; mark 1; end; end; mark 2;").count(14), 1);
        check.due("rounds of nothing", Check.deskOf("do 99; do 99; do 99; end; end; end; mark 2;").count(14), 1);
        check.due("3 within one another", Check.deskOf("do 2; do 3; do 4; mark 1; end; end; end;").count(14), 24);
        check.due("behind one another", Check.deskOf("do 1; mark 1; end; do 1; mark 1; end; do 1; mark 1; end; do 1; mark 1; end;").count(14), 4);
        fault("do 100; end;", 5, 3);
        fault("do 1; do 1; do 1; do 1; end; end; end; end;", 2, 18);
    }

    private static void wraps() {
        check.words("E: ints of 32 bits that wrap, / rounded towards 0, % the rest with the sign of the first;"
            + " what is divided by 0, its rest by 0, is 0.");
        String least = "(8192*8192*32)";
        String greatest = "(8192*8192*32-1)";
        number(least, Integer.MIN_VALUE);
        number(greatest, Integer.MAX_VALUE);
        number(greatest + "+1", Integer.MIN_VALUE);
        number(least + "-1", Integer.MAX_VALUE);
        number(greatest + "*2", -2);
        number(least + "*2", 0);
        number("9999*9999*9999", 9999 * 9999 * 9999);
        number("0-" + least, Integer.MIN_VALUE);
        number(least + "/(0-1)", Integer.MIN_VALUE);
        number(least + "%(0-1)", 0);
    }

    private static void divisions() {
        int[][] rows = {{7, 2, 3, 1}, {-7, 2, -3, -1}, {7, -2, -3, 1}, {-7, -2, 3, -1}, {1, 2, 0, 1}, {-1, 2, 0, -1}, {6, 3, 2, 0},
            {-6, 3, -2, 0}, {7, 0, 0, 0}, {-7, 0, 0, 0}, {0, 0, 0, 0}, {0, 5, 0, 0}};
        for (int[] row : rows) {
            String first = row[0] < 0 ? "(0-" + -row[0] + ")" : "" + row[0];
            String second = row[1] < 0 ? "(0-" + -row[1] + ")" : "" + row[1];
            number(first + "/" + second, row[2]);
            number(first + "%" + second, row[3]);
        }
        number("5+7/0", 5);
        number("5+7%0", 5);
        number("7/0*3", 0);
        number("7/(3-3)", 0);
        number("7/i", 0);
    }

    private static void ij() {
        check.words("i: the round, from 0 on, of the innermost DO about it, j: of the next one about that (0 without);");
        number("i", 0);
        number("j", 0);
        RestoreDesk desk = Check.deskOf("do 2; mark i+10*j; do 2; mark i+10*j; do 2; mark i+10*j; end; mark i+10*j; end; mark i+10*j; end; mark i+10*j;");
        int[] due = {0, 0, 0, 1, 0, 1, 10, 11, 1, 0, 1, 10, 0, 1, 10, 11, 10, 11, 11, 1, 0};
        check.due("marks", desk.count(14), due.length);
        for (int n = 0; n < due.length; n++) {
            check.due("mark " + n, desk.record(0, n + 1, 1), due[n]);
        }
    }

    private static void placeLineCopies() {
        check.words("place: the PLACE of the LINE that goes on; line: its number; copies: how many COPIES there are;");
        number("place", 0);
        number("line", 0);
        number("copies", 0);
        check.due("place behind a record", Check.deskOf("mark 7; mark place;").record(0, 2, 1), 1);
        check.due("place behind a refused one", Check.deskOf("write 9 1; mark place;").record(0, 1, 1), 0);
        check.due("place in one tell", Check.deskOf("mark 7; write place place;").value(0, 2), 1);
        RestoreDesk desk = Check.deskOf("pages 1; copy; take 0 0; close 0; mark 5; mark 5; restore 0 0 1; mark place; mark line;"
            + " restore 0 1 3; write 0 100*line+10*place+copies; copy; mark copies;");
        check.due("place of the new line", desk.record(1, 2, 1), 1);
        check.due("its number", desk.record(1, 3, 1), 1);
        check.due("all three", desk.value(2, 4), 231);
        check.due("copies", desk.record(2, 5, 1), 2);
        check.due("copies that are refused", Check.deskOf("do 12; copy; end; mark copies;").record(0, 1, 1), 10);
    }

    private static void toldIs(String tells, int line, int place, long want) {
        check.due("told behind '" + tells + "'", Check.deskOf(tells + " mark told;").record(line, place, 1), want);
    }

    private static void told() {
        check.words("told: what the last TELL ahead in this text that is no do told (its call; true 1, false 0; 0 without).");
        toldIs("", 0, 1, 0);
        toldIs("write 0 7;", 0, 2, 1);
        toldIs("mark 5; write 3 7;", 0, 3, 2);
        toldIs("write 4 7;", 0, 1, -1);
        toldIs("mark 5; add 0 7;", 0, 3, 2);
        toldIs("add 0-1 7;", 0, 1, -1);
        toldIs("mark 5; mark 5; mark 5;", 0, 4, 3);
        toldIs("mark 5; fill;", 0, 5, 3);
        toldIs("mark 5; fill; fill;", 0, 5, 0);
        toldIs("piece 7; do 34; mark 1; fill; end; mark 2; fill;", 0, 240, -1);
        toldIs("copy; copy;", 0, 1, 1);
        toldIs("do 11; copy; end;", 0, 1, -1);
        toldIs("copy; upon 0;", 0, 1, 1);
        toldIs("upon 0;", 0, 1, -1);
        toldIs("copy; take 0 3;", 0, 1, 1);
        toldIs("mark 5; copy; take 0 3; take 0 4;", 0, 2, 0);
        toldIs("copy; close 0;", 0, 1, 1);
        toldIs("copy; close 0; close 0;", 0, 1, 0);
        toldIs("piece 2; mark 5; mark 5; lose 0 0;", 0, 3, 1);
        toldIs("piece 2; mark 5; mark 5; lose 0 0; lose 0 0;", 0, 3, 0);
        String one = "pages 1; piece 2; copy; take 0 0; close 0;";
        toldIs(one + " restore 0 0 0;", 1, 1, 0);
        toldIs(one + " restore 1 0 0;", 0, 1, 1);
        toldIs(one + " mark 1; copy; take 1 0; close 1; restore 0 0 0; restore 1 1 0;", 1, 1, 2);
        toldIs("pages 1; mark 1; copy; take 0 0; close 0; restore 0 0 0;", 0, 2, 3);
        toldIs(one + " write 0 1; write 0 2; lose 0 0; restore 0 0 2;", 0, 3, 4);
        toldIs("mark 5; mark 5; do 0; fill; end;", 0, 3, 2);
        toldIs("mark 5; mark 5; do 1; end;", 0, 3, 2);
        check.due("told of the round ahead", Check.deskOf("do 3; mark 10*i+told; end;").record(0, 3, 1), 22);
        RestoreDesk desk = Check.deskOf("mark 1; mark 1;");
        Check.read(desk, "mark told;");
        check.due("of another text", desk.record(0, 1, 1), 0);
        RestoreDesk calls = new RestoreDesk();
        calls.mark(1);
        Check.read(calls, "mark told;");
        check.due("of a call ahead of the text", calls.record(0, 1, 1), 0);
    }

    private static void tellsAreCalls() {
        check.words("Each TELL is the call of that name (for fill: fill(), and so on; copy: copy(NONE); upon: copy of that;"
            + " restore: of the COPY, LINE and PLACE).");
        String head = "pages 2; piece 2;";
        check.same("a text and its calls", Picture.of(() -> Check.deskOf(head + " write 0 5; add 1 6; mark 7; fill; copy; take 0 0;"
            + " take 0 1; close 0; upon 0; take 1 1; add 0 1; close 1; lose 0 0; restore 1 0 4; restore 0 0 5; mark 2;")), Picture.of(() -> {
                RestoreDesk desk = Check.deskOf(head + " do 16; close 9; end;");
                desk.write(0, 5);
                desk.add(1, 6);
                desk.mark(7);
                desk.fill();
                desk.copy(-1);
                desk.take(0, 0);
                desk.take(0, 1);
                desk.close(0);
                desk.copy(0);
                desk.take(1, 1);
                desk.add(0, 1);
                desk.close(1);
                desk.lose(0, 0);
                desk.restore(1, 0, 4);
                desk.restore(0, 0, 5);
                desk.mark(2);
                return desk;
            }));
        check.due("upon of NONE", Check.deskOf("upon 0 - 1;").made(0, 1), -2);
        check.due("upon of -2", Check.deskOf("upon 0 - 2;").count(6), 0);
        check.due("upon of the one ahead", Check.deskOf("copy; upon 0;").made(1, 1), 0);
    }

    private static void threeHundred() {
        check.words("TELLS are done one behind the other till they end or 300 that are no do were done.");
        RestoreDesk all = Check.deskOf("do 99; write 9 9; write 9 9; write 9 9; end; mark 1; mark 2;");
        check.due("299 tells", all.count(11), 299);
        check.due("the last of them", all.record(0, 2, 1), 2);
        RestoreDesk most = Check.deskOf("do 99; write 9 9; write 9 9; write 9 9; end; mark 1; mark 2; mark 3;");
        check.due("300 tells", most.count(11), 300);
        check.due("the last of them", most.record(0, 3, 1), 3);
        RestoreDesk more = Check.deskOf("do 99; write 9 9; write 9 9; write 9 9; end; mark 1; mark 2; mark 3; mark 4; copy;");
        check.due("300 of more", more.count(11), 300);
        check.due("the 301st is not done", more.count(4), 3);
        check.due("nor the 302nd", more.count(6), 0);
        check.due("rounds end, too", Check.deskOf("do 99; do 99; write 9 9; end; end; mark 1;").count(11), 300);
        check.due("a do is none of them", Check.deskOf("do 99; do 3; mark 1; end; end; mark 1; do 5; end; mark 2; mark 3;").count(11), 300);
        // what a text left within its rounds is not gone on with by the next
        RestoreDesk next = Check.deskOf("do 9; do 9; do 9; write 9 9; end; end; end;");
        check.due("300 of 729", next.count(11), 300);
        check.due("the next text", Check.read(next, "mark i+10*j; do 2; do 2; do 2; mark i+10*j; end; end; end; mark i+10*j;"), 0);
        check.due("its tells", next.count(11), 10);
        int[] marks = {0, 0, 1, 10, 11, 0, 1, 10, 11, 0};
        for (int n = 0; n < marks.length; n++) {
            check.due("its mark " + n, next.record(0, n + 1, 1), marks[n]);
        }
        RestoreDesk other = Check.deskOf("do 3; mark 1; end;");
        for (int tells = 1; tells <= 4; tells++) {
            Check.read(other, "do 3; " + "mark 1; ".repeat(tells) + "end;");
            check.due("3 rounds of " + tells, other.count(11), 3 * tells);
        }
        check.due("in their order", Check.deskOf("write 0 1; write 0 2; do 2; write 0 3+i; end; write 0 5;").value(0, 4), 4);
    }

    private static void firstFault() {
        check.words("FAULTS of a text, the first by its place (a byte; the text's end: its length), of one place the least:");
        fault("fill; ? fill; !", 1, 6);
        fault("mark ; ?", 1, 5);
        fault("write 1; mark (((((((1", 1, 7);
        fault("restore 1 2; mark ;", 1, 11);
        fault("mark (1; ?", 1, 7);
        fault("pages ; ?", 1, 6);
        fault("do ; ?", 1, 3);
        fault("end ; ?", 1, 0);
        fault("fill fill; ?", 1, 5);
        fault("mark (((((((1))))))); do 1; do 1; do 1; do 1;", 2, 11);
        fault("? do 1; do 1; do 1; do 1;", 1, 0);
        fault("do 1; do 1; do 1; do 1; ?", 2, 18);
        fault("do 1; do 1; do 1; do ?", 2, 18);
        fault("mark (((((((? ", 2, 11);
        fault("mark ((((((?(", 1, 11);
        fault("fill;".repeat(200) + "fill ?", 2, 1000);
        fault("fill;".repeat(200) + "?", 1, 1000);
        fault("fill;".repeat(199) + "?;fill;fill;", 1, 995);
        fault("pages 9; ?", 1, 9);
        fault("pages 9; do 1; do 1; do 1; do 1;", 2, 27);
        // a 401st token: with one that no text goes on with there it is 1
        fault("fill;".repeat(200) + ";", 1, 1000);
        fault("fill;".repeat(200) + "end;", 1, 1000);
        fault("fill;".repeat(200) + "pages 2;", 1, 1000);
        fault("fill;".repeat(200) + "12345", 1, 1000);
        fault("fill;".repeat(200) + "abcdefghi", 1, 1000);
    }

    private static void textEnd() {
        fault("fill", 1, 4);
        fault("fill   ", 1, 7);
        fault("\nmark", 1, 5);
        fault("do 1;", 1, 5);
        fault("do 1; end", 1, 9);
        fault("pages", 1, 5);
        fault("mark (1", 1, 7);
    }

    private static void tokens401() {
        check.words("2 ROOM: a 401st TOKEN; a 4th DO within one another (at it); a 7th ( within one another (at it).");
        fine("fill;".repeat(200));
        fine("fill;".repeat(200) + BLANKS);
        fault("fill;".repeat(200) + " fill;", 2, 1001);
        fault("fill;".repeat(200) + "do 1; end;", 2, 1000);
        fault("mark 1;fill;" + "fill;".repeat(198), 2, 1001);
        fine("mark 1" + "+1".repeat(198) + ";");
        fault("mark 1" + "+1".repeat(199) + ";", 2, 404);
        fault("mark 1" + "+1".repeat(199) + "+1;", 2, 404);
        fault("mark 1" + "+1".repeat(198) + "+", 1, 403);
        fault("write 1 1" + "+1".repeat(199) + ";", 2, 406);
        fine("write 1 1" + "+1".repeat(198) + ";");
        fault("pages 2;" + "fill;".repeat(199), 2, 1002);
        fine("pages 2;mark 1;" + "fill;".repeat(197));
        fine("pages 2;piece 2;" + "fill;".repeat(197));
        fault("pages 2;piece 2;" + "fill;".repeat(198), 2, 1001);
    }

    private static void fourthDo() {
        fine("do 1; do 1; do 1; end; end; end;");
        fault("do 1; do 1; do 1; do 1; end; end; end; end;", 2, 18);
        fault("do 1; do 1; do 1; do", 2, 18);
        fault("do 1; do 1; do 1; fill; do 0; end;", 2, 24);
        fine("do 1; do 1; do 1; end; do 1; end; end; do 1; do 1; end; end; end; do 1; end;");
        fault("do 1; do 1; do 1; end; do 1; do 1; end;", 2, 29);
        fault("do 1; do 1; end; do 1; do 1; do 1;", 2, 29);
        fault("do 0; do 0; do 0; do 0; end; end; end; end;", 2, 18);
    }

    private static void seventhBracket() {
        fine("mark ((((((1))))));");
        fault("mark (((((((1)))))));", 2, 11);
        fault("mark (((((((", 2, 11);
        fine("mark ((((((1))))))+((((((1))))));");
        number("((((((7))))))", 7);
        RestoreDesk both = Check.deskOf("write ((((((1)))))) ((((((7))))));");
        check.due("a first one", both.record(0, 1, 1), 1);
        check.due("a second one", both.value(0, 1), 7);
        check.due("a third one", Check.deskOf("pages 1;" + Desks.ONE + " mark 1; mark 1; restore 0 0 ((((((1))))));").line(1, 2), 1);
        fine("mark ((((((1)+(1))))));");
        fault("mark ((((((1)+((1", 2, 15);
        fault("restore ((((((1)))))) ((((((1)))))) (((((((1", 2, 42);
        fault("mark 1+(((((((1", 2, 13);
    }

    private static void wrongNumbers() {
        check.words("If there is none, likewise: 5 WRONG (at the INT): a number of PAGES, of a PIECE, of rounds not as told above.");
        for (int number : new int[] {0, 9, 10, 99, 100, 9999}) {
            fault("pages " + number + ";", 5, 6);
        }
        for (int number : new int[] {0, 1, 9, 10, 99, 9999}) {
            fault("piece " + number + ";", 5, 6);
            fault("pages 1; piece   " + number + ";", 5, 17);
        }
        for (int number : new int[] {100, 101, 999, 9999}) {
            fault("do " + number + "; end;", 5, 3);
        }
        fault("pages 0000;", 5, 6);
        fault("do 0100; end;", 5, 3);
        fine("pages 0008; piece 0002; do 0099; end;");
        fault("pages 9; piece 9; do 100; end;", 5, 6);
        fault("pages 8; piece 9; do 100; end;", 5, 15);
        fault("do 99; do 100; end; do 101; end; end;", 5, 10);
        fault("do 100; do 101; end; end;", 5, 3);
        fault("do 0; do 100; end; end;", 5, 9);
        fault("pages 9; fill", 1, 13);
        fault("do 100; end; " + "mark (((((((1", 2, 24);
        fine("mark 9999; write 9999 9999;");
    }

    private static RestoreDesk busy() {
        RestoreDesk desk = Check.deskOf("pages 2; piece 2; copy; take 0 0; take 0 1; close 0; write 0 5; add 1 3; mark 9; upon 0;"
            + " take 1 1; close 1; write 1 4; restore 0 0 3; add 0 10; mark 9; copy; take 2 0; do 7; copy; end; close 9; close 5;");
        desk.drop(9);
        desk.drop(5);
        desk.hold(1);
        desk.write(0, 1);
        desk.lose(0, 0);
        desk.hold(2);
        desk.twice(0, 1, false);
        return desk;
    }

    private static void faultsChangeNothing() {
        check.words("A text with a FAULT changes nothing but the tape; else a new store is in place of the one ahead"
            + " (LINE 0, PLACE 0, all pages 0), and the TELLS are done; SLOTS hold nothing.");
        String[] texts = {"pages 3; piece 3; mark 1; fill", "pages 0; mark 1;", "mark 1; do 100; end;", "?",
            "do 1; do 1; do 1; do 1; end; end; end; end;", "mark 1;".repeat(134)};
        int[] faults = {1, 5, 5, 1, 2, 2};
        for (int n = 0; n < texts.length; n++) {
            String text = texts[n];
            check.nothing(text, EdgeTextsTest::busy, desk -> Check.read(desk, text), faults[n]);
            RestoreDesk desk = busy();
            Check.read(desk, text);
            check.due("the tape", desk.count(8), 0);
        }
    }

    private static void newStore() {
        for (String text : new String[] {"", "pages 3;", "piece 5;", "pages 1; piece 2; mark 1; write 0 4; copy; take 0 0; close 0; restore 0 0 2;"}) {
            check.same("'" + text + "' ahead of which much was", Picture.of(() -> {
                RestoreDesk desk = busy();
                Check.read(desk, text);
                return desk;
            }), Picture.of(() -> Check.deskOf(text)));
        }
        RestoreDesk full = Check.deskOf("pages 1; piece 2;" + Desks.ONE + " do 6; mark 1; end; restore 0 0 1; do 6; mark 1; end;");
        check.due("kept pieces", full.count(9), 6);
        Check.read(full, "pages 1; piece 2;" + Desks.ONE + " do 5; mark 1; lose 0 i/2; end; restore 0 0 1;");
        for (int line = 0; line < 2; line++) {
            for (int piece = 0; piece < 3; piece++) {
                check.due("what was kept is not there", full.piece(line, piece), line == 0 || piece == 0 ? 0 : -1);
            }
        }
        check.due("kept pieces", full.count(9), 0);
        RestoreDesk desk = busy();
        desk.read();
        check.due("lines", desk.count(2), 1);
        check.due("the line that goes on", desk.count(3), 0);
        check.due("its place", desk.count(4), 0);
        check.due("records made", desk.count(5), 0);
        check.due("copies", desk.count(6), 0);
        check.due("open ones", desk.count(12), 0);
        check.due("dropped ones", desk.count(13), 0);
        check.due("slots that hold something", desk.count(10), 0);
        for (int slot = 0; slot < 3; slot++) {
            check.due("again", desk.again(slot), false);
        }
        for (int page = 0; page < 4; page++) {
            check.due("a page", desk.page(page, 0, 0), 0);
        }
        check.due("all 600 can be made anew", manyAhead().count(5), 240);
    }

    private static RestoreDesk manyAhead() {
        String many = "pages 1; piece 8; copy; take 0 0; close 0; do 30; mark 1; fill; end;";
        RestoreDesk desk = Check.deskOf(many + " restore 0 0 0; do 30; mark 1; fill; end; restore 0 1 0; do 15; mark 1; fill; end;");
        check.due("all are made", desk.count(5), 600);
        check.due("one more", desk.mark(1), -1);
        Check.read(desk, many);
        return desk;
    }

    private static void newObject() {
        check.words("`RestoreDesk()`: LINE 0, no RECORDS; 4 PAGES, PIECES of 4.");
        RestoreDesk desk = new RestoreDesk();
        int[] counts = {4, 4, 1, 0, 0, 0, 0, 0, 0, 0, 0, 0, 0, 0, 0, 0};
        for (int what = 0; what < counts.length; what++) {
            check.due("count " + what, desk.count(what), counts[what]);
        }
        check.due("record 1", desk.record(0, 1, 0), -1000000000);
        check.same("a new object and an empty text", Picture.of(RestoreDesk::new), Picture.of(() -> Check.deskOf("")));
    }

    private static void feed() {
        check.words("`int feed(int a, int b, int c, int d, int e)`: Twenty bytes, the highest of a first, come behind the tape: how many it has.");
        RestoreDesk desk = new RestoreDesk();
        // 'page' 's 3;' 'piec' 'e 5;' 'mark'
        check.due("feed", desk.feed(0x70616765, 0x7320333b, 0x70696563, 0x6520353b, 0x6d61726b), 20);
        // ' 123' '4;wr' 'ite ' '1 56' '78; '
        check.due("feed", desk.feed(0x20313233, 0x343b7772, 0x69746520, 0x31203536, 0x37383b20), 40);
        check.due("read", desk.read(), 0);
        check.due("pages", desk.count(0), 3);
        check.due("size", desk.count(1), 5);
        check.due("mark", desk.record(0, 1, 1), 1234);
        check.due("write", desk.value(0, 2), 5678);
        // bytes above 127, the first and the last of twenty
        desk.feed(0xff202020, 0x20202020, 0x20202020, 0x20202020, 0x20202020);
        check.due("read", desk.read(), 1);
        check.due("place", desk.place(), 0);
        desk.feed(0x20202020, 0x20202020, 0x20202020, 0x20202020, 0x20202080);
        check.due("read", desk.read(), 1);
        check.due("place", desk.place(), 19);
    }

    private static RestoreDesk fedTo2000() {
        RestoreDesk desk = new RestoreDesk();
        Check.put(desk, " ".repeat(1993) + "mark 7;");
        return desk;
    }

    private static void feedTooMuch() {
        check.words("NONE, and nothing comes, if it would have more than 2,000.");
        RestoreDesk desk = fedTo2000();
        check.due("bytes", desk.count(8), 2000);
        check.due("feed at 2,000", desk.feed(-1, -1, -1, -1, -1), -1);
        check.due("bytes", desk.count(8), 2000);
        check.due("the same text", desk.read(), 0);
        check.due("its mark", desk.record(0, 1, 1), 7);
        check.due("feed behind a read", desk.feed(0, 0, 0, 0, 0), 20);
        for (int over = 1; over <= 19; over++) {
            RestoreDesk some = fedTo2000();
            some.back(20 - over);
            check.due("feed with " + over + " too many", some.feed(-1, -1, -1, -1, -1), -1);
            check.due("bytes", some.count(8), 1980 + over);
        }
        RestoreDesk just = fedTo2000();
        just.back(20);
        check.due("feed to 2,000", just.feed(0x20202020, 0x20202020, 0x20202020, 0x20202020, 0x2020203f), 2000);
        check.due("read", just.read(), 1);
        check.due("the last byte", just.place(), 1999);
    }

    private static void back() {
        check.words("`int back(int n)`: The last n bytes of the tape go: how many it has.");
        RestoreDesk desk = new RestoreDesk();
        check.due("back(0) of nothing", desk.back(0), 0);
        Check.put(desk, "mark 1; ?????       ");
        check.due("back(0)", desk.back(0), 20);
        check.due("back(7)", desk.back(7), 13);
        check.due("back(5)", desk.back(5), 8);
        check.due("bytes", desk.count(8), 8);
        check.due("read", desk.read(), 0);
        check.due("mark", desk.record(0, 1, 1), 1);
        Check.put(desk, "???????????");
        check.due("all go", desk.back(11), 0);
        Check.put(desk, "mark 2;");
        check.due("others come", desk.count(8), 7);
        check.due("read", desk.read(), 0);
        check.due("mark", desk.record(0, 1, 1), 2);
        check.due("all of 2,000 go", fedTo2000().back(2000), 0);
        goneFrom("mark 12345", 1, 9);
        goneFrom("fills", 1, 4);
        goneFrom("fill;?", 0, -1);
        goneFrom("fill; fill;;", 0, -1);
        goneFrom("do 1; end;?", 0, -1);
    }

    /** What is gone from the tape is not read with what is left. */
    private static void goneFrom(String text, int fault, int place) {
        RestoreDesk desk = new RestoreDesk();
        Check.put(desk, text);
        desk.back(1);
        check.due("read of all but the last of '" + text + "'", desk.read(), fault);
        check.due("its place", desk.place(), place);
    }

    private static void backTooMuch() {
        check.words("NONE, and nothing goes, if it has not so many, or n is below 0.");
        int[] wrong = {-1, -20, Integer.MIN_VALUE, 8, 21, 2000, 2001, Integer.MAX_VALUE};
        for (int n : wrong) {
            RestoreDesk desk = new RestoreDesk();
            Check.put(desk, "mark 5;");
            check.due("back(" + n + ")", desk.back(n), -1);
            check.due("bytes", desk.count(8), 7);
            check.due("read", desk.read(), 0);
            check.due("mark", desk.record(0, 1, 1), 5);
        }
        check.due("back(1) of nothing", new RestoreDesk().back(1), -1);
        check.due("back(-1) of nothing", new RestoreDesk().back(-1), -1);
        check.due("back(2001) of 2,000", fedTo2000().back(2001), -1);
    }

    private static void read() {
        check.words("`int read()`: The tape, which is empty then, is read: 0, or the number of its FAULT.");
        RestoreDesk desk = new RestoreDesk();
        check.due("nothing", desk.read(), 0);
        check.due("fine", Check.read(desk, "mark 1;"), 0);
        check.due("bytes", desk.count(8), 0);
        check.due("back", desk.back(1), -1);
        check.due("syntax", Check.read(desk, "mark"), 1);
        check.due("bytes", desk.count(8), 0);
        check.due("room", Check.read(desk, "mark (((((((1"), 2);
        check.due("bytes", desk.count(8), 0);
        check.due("wrong", Check.read(desk, "pages 9;"), 5);
        check.due("bytes", desk.count(8), 0);
        check.due("the store is as it was", desk.record(0, 1, 1), 1);
        check.due("nothing is left of it", desk.read(), 0);
        check.due("a new store", desk.count(5), 0);
    }

    private static void place() {
        check.words("`int place()`: The byte of the latest read()'s FAULT; NONE without.");
        RestoreDesk desk = new RestoreDesk();
        check.due("ahead of any", desk.place(), -1);
        Check.read(desk, "pages 9;");
        check.due("of the first", desk.place(), 6);
        desk.hold(0);
        desk.mark(1);
        Check.put(desk, "fill");
        check.due("till the next", desk.place(), 6);
        desk.read();
        check.due("of the second", desk.place(), 4);
        desk.again(0);
        check.due("of the latest read", desk.place(), 4);
        desk.read();
        check.due("without", desk.place(), -1);
        Check.read(desk, "?");
        check.due("byte 0", desk.place(), 0);
    }
}
