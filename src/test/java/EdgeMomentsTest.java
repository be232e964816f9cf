import java.util.function.Supplier;

/** Promises 18 to 26 and 44 to 50, and BUSIEST, sentence by sentence. */
public final class EdgeMomentsTest {
    private static final Check check = new Check("EdgeMomentsTest");
    private static final int NO_RECORD = -1000000000;
    private static final int LEAST = Desks.LEAST;
    private static final int GREATEST = Desks.GREATEST;
    private static final String ONE = Desks.ONE;
    private static final int[] NO_PAGES = {-1, -2, 2, 7, 8, 32, GREATEST, LEAST};
    private static final int[] NO_LINES = {-1, -2, 3, 8, GREATEST, LEAST};
    private static final int[] NO_COPIES = {-1, -2, 3, 10, 32, GREATEST, LEAST};
    private static final int[] NO_SLOTS = {-1, -2, 3, 4, 32, GREATEST, LEAST};
    private static final int[] FAR = {-1, -2, 6, 240, 241, GREATEST, LEAST};

    public static void main(String[] args) {
        page();
        record();
        value();
        line();
        piece();
        made();
        source();
        taken();
        held();
        last();
        way();
        where();
        busiestOnes();
        busiest();
        hold();
        again();
        allIsHeld();
        count();
        countBits();
        check.end();
    }

    private static void page() {
        check.words("`int page(int page, int line, int place)`: What a page is as of a LINE and PLACE; 0: no such ones.");
        RestoreDesk desk = Desks.branched();
        check.due("page 0 of line 1 at 5", desk.page(0, 1, 5), 18);
        check.due("page 1 of line 2 at 3", desk.page(1, 2, 3), 1);
        check.due("page 1 of line 0 at 5", desk.page(1, 0, 5), 8);
        check.due("at 0", desk.page(0, 0, 0), 0);
        for (int page : NO_PAGES) {
            check.due("page " + page, desk.page(page, 1, 5), 0);
        }
        for (int line : NO_LINES) {
            check.due("line " + line, desk.page(0, line, 1), 0);
        }
        for (int place : FAR) {
            check.due("place " + place, desk.page(0, 1, place), 0);
        }
        check.due("a place that another line has", desk.page(0, 2, 4), 0);
    }

    private static void record() {
        check.words("`int record(int line, int place, int what)`: The RECORD of a LINE at a PLACE (by its WAY): what 0 its sort"
            + " (0 WRITTEN, 1 ADDED, 2 a MARK, 3 EMPTY), 1 page or number (EMPTY: -2), 2 the LINE by which it came. -1000000000 for others.");
        RestoreDesk desk = Check.deskOf("pages 2; piece 4;" + " copy; take 0 0; take 0 1; close 0; write 1 5; add 0 6; mark 7; fill; restore 0 0 2; add 1 1; fill;");
        int[][][] due = {{{0, 1, 0}, {1, 0, 0}, {2, 7, 0}, {3, -2, 0}}, {{0, 1, 0}, {1, 0, 0}, {1, 1, 1}, {3, -2, 1}}};
        for (int line = 0; line < 2; line++) {
            for (int place = 1; place <= 4; place++) {
                for (int what = 0; what < 3; what++) {
                    check.due("record " + line + " " + place + " " + what, desk.record(line, place, what), due[line][place - 1][what]);
                }
            }
        }
        for (int what : new int[] {-1, -2, 3, 4, GREATEST, LEAST}) {
            check.due("what " + what, desk.record(0, 1, what), NO_RECORD);
        }
        for (int place : new int[] {0, -1, 5, 240, 241, GREATEST, LEAST}) {
            check.due("place " + place, desk.record(0, place, 0), NO_RECORD);
            check.due("place " + place, desk.record(1, place, 2), NO_RECORD);
        }
        for (int line : new int[] {-1, 2, 8, GREATEST, LEAST}) {
            check.due("line " + line, desk.record(line, 1, 0), NO_RECORD);
        }
        check.due("a mark of that very number", markOf(NO_RECORD).record(0, 1, 1), NO_RECORD);
    }

    private static RestoreDesk markOf(int number) {
        RestoreDesk desk = new RestoreDesk();
        desk.mark(number);
        return desk;
    }

    private static void value() {
        check.words("`int value(int line, int place)`: Value, or how much, of a RECORD; 0: a MARK, EMPTY, no such ones.");
        RestoreDesk desk = new RestoreDesk();
        desk.write(0, LEAST);
        desk.add(1, GREATEST);
        desk.mark(7);
        desk.fill();
        desk.add(0, -5);
        int[] due = {0, LEAST, GREATEST, 0, 0, -5};
        for (int place = 0; place < due.length; place++) {
            check.due("at " + place, desk.value(0, place), due[place]);
        }
        for (int place : FAR) {
            check.due("place " + place, desk.value(0, place), 0);
        }
        RestoreDesk branched = Desks.branched();
        for (int line : NO_LINES) {
            check.due("line " + line, branched.value(line, 1), 0);
        }
        check.due("by its way", branched.value(2, 1), 5);
        check.due("its own", branched.value(1, 4), 10);
    }

    private static void line() {
        check.words("`int line(int line, int what)`: Of a LINE: what 0 its PLACE, 1 PARENT, 2 FORK (LINE 0: -2), 3 how many LINES its WAY has,"
            + " 4 its first PIECE's number. NONE for others.");
        RestoreDesk desk = Desks.branched();
        int[][] due = {{5, -2, -2, 1, 0}, {5, 0, 3, 2, 1}, {3, 1, 2, 3, 1}};
        for (int line = 0; line < 3; line++) {
            for (int what = 0; what < 5; what++) {
                check.due("line " + line + " " + what, desk.line(line, what), due[line][what]);
            }
            for (int what : new int[] {-1, -2, 5, 6, GREATEST, LEAST}) {
                check.due("what " + what, desk.line(line, what), -1);
            }
        }
        for (int line : NO_LINES) {
            for (int what = 0; what < 5; what++) {
                check.due("line " + line, desk.line(line, what), -1);
            }
        }
        RestoreDesk zero = Check.deskOf("pages 1;" + ONE + " restore 0 0 0;");
        int[] fork = {0, 0, 0, 2, 0};
        for (int what = 0; what < 5; what++) {
            check.due("a fork at 0, what " + what, zero.line(1, what), fork[what]);
        }
        check.due("the first piece of a fork at a piece's last", Check.deskOf("pages 1; piece 2;" + ONE + " do 4; mark 1; end; restore 0 0 4;").line(1, 4), 2);
    }

    private static void piece() {
        check.words("`int piece(int line, int piece)`: A PIECE: 0 it is not KEPT, 1 KEPT, 2 DOUBLED alike, 3 unlike; NONE: the LINE has no such piece.");
        RestoreDesk desk = Desks.branched();
        int[][] due = {{1, 1, 0, -1}, {-1, 1, 0, -1}, {-1, 0, -1, -1}};
        for (int line = 0; line < 3; line++) {
            for (int piece = 0; piece < 4; piece++) {
                check.due("piece " + line + " " + piece, desk.piece(line, piece), due[line][piece]);
            }
        }
        desk.twice(0, 0, true);
        check.due("alike", desk.piece(0, 0), 2);
        desk.twice(0, 0, false);
        check.due("unlike", desk.piece(0, 0), 3);
        desk.lose(0, 0);
        check.due("lost", desk.piece(0, 0), 0);
        for (int piece : new int[] {-1, -2, 3, 119, 120, 121, 1 << 29, 1 << 30, GREATEST, LEAST}) {
            check.due("piece " + piece, desk.piece(0, piece), -1);
        }
        for (int line : NO_LINES) {
            check.due("line " + line, desk.piece(line, 0), -1);
        }
        check.due("at place 0", new RestoreDesk().piece(0, 0), -1);
    }

    private static void made() {
        check.words("`int made(int copy, int what)`: Of a COPY: what 0 its LINE, 1 UPON which (-2: none), 2: 1 OPEN, else 0, 3 pages taken (bits),"
            + " 4 pages it has (bits), 5: 1 FIT, else 0, 6 CHAIN, 7: 1 DROPPED, else 0. NONE for others.");
        RestoreDesk desk = Check.deskOf("pages 2; copy; take 0 0; take 0 1; close 0; restore 0 0 0; upon 0; take 1 1; upon 1; close 2; copy; close 3;");
        desk.drop(3);
        int[][] due = {{0, -2, 0, 3, 3, 1, 1, 0}, {1, 0, 1, 2, 3, 0, 2, 0}, {1, 1, 0, 0, 3, 0, 3, 0}, {1, -2, 0, 0, 0, 0, 1, 1}};
        for (int copy = 0; copy < 4; copy++) {
            for (int what = 0; what < 8; what++) {
                check.due("made " + copy + " " + what, desk.made(copy, what), due[copy][what]);
            }
            for (int what : new int[] {-1, -2, 8, 9, GREATEST, LEAST}) {
                check.due("what " + what, desk.made(copy, what), -1);
            }
        }
        for (int copy : new int[] {-1, -2, 4, 10, 32, GREATEST, LEAST}) {
            for (int what = 0; what < 8; what++) {
                check.due("copy " + copy, desk.made(copy, what), -1);
            }
        }
        RestoreDesk eight = Check.deskOf("pages 8; copy; take 0 0; take 0 7;");
        check.due("pages 0 and 7", eight.made(0, 3), 129);
    }

    /** Copy 0 of line 0 has page 0 at 1 (5); copy 1 of line 1 upon it has page 1 at 2 (6); page 2 lacks. */
    private static RestoreDesk increments() {
        return Check.deskOf("pages 3; copy; take 0 0; take 0 1; take 0 2; close 0; write 0 5; copy; take 1 0; close 1; restore 0 0 1; add 1 6;"
            + " upon 1; take 2 1;");
    }

    private static void source() {
        check.words("`int source(int copy, int page)`: Of a page of a COPY: the LINE of which it was taken; -2: it lacks; NONE: no such ones.");
        RestoreDesk desk = increments();
        int[] due = {0, 1, -2};
        for (int page = 0; page < 3; page++) {
            check.due("page " + page, desk.source(2, page), due[page]);
        }
        for (int page : new int[] {-1, 3, 7, 8, 32, GREATEST, LEAST}) {
            check.due("page " + page, desk.source(2, page), -1);
        }
        for (int copy : NO_COPIES) {
            check.due("copy " + copy, desk.source(copy, 0), -1);
        }
    }

    private static void taken() {
        check.words("`int taken(int copy, int page)`: Of a page of a COPY: the PLACE of which it was taken (itself or UPON which it is);"
            + " -2: it lacks; NONE: no such ones.");
        RestoreDesk desk = increments();
        int[] due = {1, 2, -2};
        for (int page = 0; page < 3; page++) {
            check.due("page " + page, desk.taken(2, page), due[page]);
            check.due("at place 0", desk.taken(0, page), 0);
        }
        for (int page : new int[] {-1, 3, 7, 8, 32, GREATEST, LEAST}) {
            check.due("page " + page, desk.taken(2, page), -1);
        }
        for (int copy : NO_COPIES) {
            check.due("copy " + copy, desk.taken(copy, 0), -1);
        }
    }

    private static void held() {
        check.words("`int held(int copy, int page)`: What a page of a COPY is; 0: it lacks, no such ones.");
        RestoreDesk desk = increments();
        int[] due = {5, 6, 0};
        for (int page = 0; page < 3; page++) {
            check.due("page " + page, desk.held(2, page), due[page]);
        }
        for (int page : new int[] {-1, 3, 7, 8, 32, GREATEST, LEAST}) {
            check.due("page " + page, desk.held(2, page), 0);
        }
        for (int copy : NO_COPIES) {
            check.due("copy " + copy, desk.held(copy, 0), 0);
        }
        // pages whose numbers are alike in their last five bits
        RestoreDesk ten = Check.deskOf("pages 1; write 0 5; do 10; copy; take i 0; end;");
        for (int page = 1; page <= 96; page++) {
            check.due("page " + page, ten.held(0, page), 0);
            check.due("page " + -page, ten.held(9, -page), 0);
        }
        // what stood there in an earlier store is gone
        Check.read(desk, "pages 1; copy;");
        check.due("of a new store", desk.held(0, 0), 0);
        check.due("a copy that is not there any more", desk.held(2, 0), 0);
    }

    private static void last() {
        check.words("`int last(int page, int line, int place)`: The last PLACE, up to a PLACE of a LINE, at which a page was WRITTEN or ADDED to;"
            + " 0: never; NONE: no such ones.");
        RestoreDesk desk = Desks.branched();
        int[][] zero = {{0, 1, 2, 2, 2, 2}, {0, 1, 2, 2, 4, 4}, {0, 1, 2, 2}};
        int[][] one = {{0, 0, 0, 3, 3, 5}, {0, 0, 0, 3, 3, 3}, {0, 0, 0, 3}};
        for (int line = 0; line < 3; line++) {
            for (int place = 0; place < zero[line].length; place++) {
                check.due("page 0 of " + line + " at " + place, desk.last(0, line, place), zero[line][place]);
                check.due("page 1 of " + line + " at " + place, desk.last(1, line, place), one[line][place]);
            }
        }
        for (int page : NO_PAGES) {
            check.due("page " + page, desk.last(page, 0, 5), -1);
        }
        for (int line : NO_LINES) {
            check.due("line " + line, desk.last(0, line, 0), -1);
        }
        for (int place : FAR) {
            check.due("place " + place, desk.last(0, 0, place), -1);
        }
        check.due("marks and empty ones are none", Check.deskOf("mark 0; mark 1; fill;").last(0, 0, 4), 0);
    }

    private static void way() {
        check.words("`int way(int line, int i)`: The i-th LINE of the WAY of one; NONE: no such ones.");
        RestoreDesk desk = Desks.branched();
        int[][] due = {{0, -1, -1, -1}, {1, 0, -1, -1}, {2, 1, 0, -1}};
        for (int line = 0; line < 3; line++) {
            for (int i = 0; i < 4; i++) {
                check.due("way " + line + " " + i, desk.way(line, i), due[line][i]);
            }
            for (int i : new int[] {-1, -2, 8, GREATEST, LEAST}) {
                check.due("way " + i, desk.way(line, i), -1);
            }
        }
        for (int line : NO_LINES) {
            check.due("line " + line, desk.way(line, 0), -1);
        }
    }

    private static void where() {
        check.words("`int where(int number, int what)`: MARKS of a number, of all LINES' own RECORDS: how many (what 0), the LINE (1), the PLACE (2)"
            + " of the first by LINE, then by PLACE (-2: none). NONE for others.");
        // line 0: m1 m2 m1; line 1 forks at 2: m3 m1; line 2 forks at 1 of line 0: m3 m3
        RestoreDesk desk = Check.deskOf("pages 1;" + ONE + " mark 1; mark 2; mark 1; restore 0 0 2; mark 3; mark 1; restore 0 0 1; mark 3; mark 3;");
        int[][] due = {{0, -2, -2}, {3, 0, 1}, {1, 0, 2}, {3, 1, 3}, {0, -2, -2}};
        for (int number = 0; number < due.length; number++) {
            for (int what = 0; what < 3; what++) {
                check.due("where " + number + " " + what, desk.where(number, what), due[number][what]);
            }
        }
        for (int what : new int[] {-1, -2, 3, GREATEST, LEAST}) {
            check.due("what " + what, desk.where(1, what), -1);
            check.due("what " + what + " of none", desk.where(9, what), -1);
        }
        check.due("pages are no marks", Check.deskOf("write 1 2; add 1 2; fill;").where(1, 0), 0);
        check.due("values are no marks", Check.deskOf("write 1 2; add 1 2; fill;").where(2, 0), 0);
        check.due("empty ones are no marks", Check.deskOf("write 1 2; fill;").where(-2, 0), 0);
        check.due("of any number", markOf(LEAST).where(LEAST, 2), 1);
        check.due("none", new RestoreDesk().where(0, 1), -2);
    }

    private static void busiestOnes() {
        check.words("BUSIEST of a LINE: the page that most of the RECORDS up to its PLACE change, its PARENT's, too, of alike ones the first; how many.");
        RestoreDesk desk = Check.deskOf("pages 3; copy; do 3; take 0 i; end; close 0; mark 2; write 2 1; write 1 1; add 2 0; restore 0 0 3; write 1 1; add 0 1; add 0 1;");
        check.due("of line 0", desk.busiest(0, 0), 2);
        check.due("how many", desk.busiest(0, 1), 2);
        check.due("of line 1, with its parent's", desk.busiest(1, 0), 0);
        check.due("of alike ones the first", desk.busiest(1, 1), 2);
        desk.add(1, 1);
        check.due("of line 1", desk.busiest(1, 0), 1);
        check.due("how many", desk.busiest(1, 1), 3);
        check.due("nothing is changed", Check.deskOf("mark 3; mark 3; fill;").busiest(0, 0), 0);
        check.due("how many", Check.deskOf("mark 3; mark 3; fill;").busiest(0, 1), 0);
        RestoreDesk eight = Check.deskOf("pages 8; write 7 1;");
        check.due("the last page", eight.busiest(0, 0), 7);
    }

    private static void busiest() {
        check.words("`int busiest(int line, int what)`: BUSIEST: what 0 the page, 1 how many; NONE: no such ones.");
        RestoreDesk desk = Desks.branched();
        check.due("the page", desk.busiest(1, 0), 0);
        check.due("how many", desk.busiest(1, 1), 3);
        for (int what : new int[] {-1, -2, 2, 3, GREATEST, LEAST}) {
            check.due("what " + what, desk.busiest(0, what), -1);
        }
        for (int line : NO_LINES) {
            check.due("line " + line, desk.busiest(line, 0), -1);
            check.due("line " + line, desk.busiest(line, 1), -1);
        }
    }

    private static void hold() {
        check.words("`boolean hold(int slot)`: All (not the tape) is held in a SLOT (0 .. 2): true; false: no such one.");
        for (int slot : NO_SLOTS) {
            check.nothing("hold " + slot, Desks::branched, desk -> Check.bit(desk.hold(slot)), 0);
        }
        for (int slot = 0; slot < 3; slot++) {
            RestoreDesk desk = new RestoreDesk();
            desk.mark(slot);
            check.due("hold " + slot, desk.hold(slot), true);
            check.due("slots", desk.count(10), 1);
            check.due("held once more", desk.hold(slot), true);
            check.due("slots", desk.count(10), 1);
        }
        RestoreDesk desk = new RestoreDesk();
        desk.hold(0);
        desk.mark(1);
        desk.hold(1);
        desk.mark(2);
        desk.hold(2);
        desk.mark(3);
        desk.hold(0);
        check.due("slots", desk.count(10), 3);
        int[] due = {3, 1, 2};
        for (int slot = 0; slot < 3; slot++) {
            desk.again(slot);
            check.due("what slot " + slot + " holds", desk.count(4), due[slot]);
        }
        RestoreDesk tape = new RestoreDesk();
        Check.put(tape, "mark 4;");
        tape.hold(0);
        tape.back(1);
        tape.again(0);
        check.due("the tape is not held", tape.count(8), 6);
        check.due("it is read as it is", tape.read(), 1);
    }

    private static void again() {
        check.words("`boolean again(int slot)`: It goes on from what a SLOT holds (that stays there): true;"
            + " false, and nothing happens: no such one, nothing is held.");
        for (int slot : NO_SLOTS) {
            check.nothing("again " + slot, Desks::branched, desk -> Check.bit(desk.again(slot)), 0);
        }
        check.nothing("nothing is held in 0", Desks::branched, desk -> Check.bit(desk.again(0)), 0);
        check.nothing("nothing is held in 1", Desks::branched, desk -> Check.bit(desk.again(1)), 0);
        check.due("held in 2", Desks.branched().again(2), true);
        RestoreDesk all = Check.deskOf("mark 1;");
        for (int slot = 0; slot < 3; slot++) {
            all.hold(slot);
        }
        all.mark(2);
        // slots whose numbers are alike in their last five bits, too
        for (int slot = 3; slot <= 70; slot++) {
            check.due("again " + slot, all.again(slot), false);
            check.due("again " + (2 - slot), all.again(2 - slot), false);
        }
        check.due("nothing happened", all.count(4), 2);
        RestoreDesk desk = new RestoreDesk();
        desk.hold(0);
        for (int round = 0; round < 3; round++) {
            check.due("it goes on", desk.write(0, round), 1);
            check.due("again", desk.again(0), true);
            check.due("place", desk.count(4), 0);
        }
        check.due("slots", desk.count(10), 1);
    }

    /** All that can be asked is as it was, whatever came in between. */
    private static void allIsHeld() {
        Supplier<RestoreDesk> made = () -> {
            RestoreDesk desk = Desks.branched();
            desk.twice(0, 0, false);
            desk.lose(1, 1);
            desk.hold(0);
            return desk;
        };
        check.same("held, left and gone on from", Picture.of(() -> {
            RestoreDesk desk = made.get();
            desk.write(0, 9);
            desk.mark(3);
            desk.fill();
            desk.take(1, 1);
            desk.close(1);
            desk.copy(1);
            desk.drop(2);
            desk.combine(0);
            desk.twice(0, 1, true);
            desk.lose(0, 0);
            desk.restore(0, 0, 0);
            desk.write(1, 5);
            desk.mark(6);
            desk.again(0);
            return desk;
        }), Picture.of(made));
        twoHistories();
        RestoreDesk going = made.get();
        going.restore(0, 0, 0);
        check.due("of another line", going.take(1, 1), false);
        going.again(0);
        check.due("of the line that goes on again", going.take(1, 1), true);
        RestoreDesk fault = Desks.branched();
        Check.read(fault, "pages 9;");
        check.due("a fault leaves what is held", fault.again(2), true);
        Check.read(fault, "pages 8;");
        check.due("a text does not", fault.again(2), false);
        fault.hold(1);
        check.due("the pages of a text are held", fault.count(0), 8);
        fault.read();
        check.due("and gone with the next", fault.again(1), false);
    }

    /** What is held of one history is not touched by another one that begins where it began. */
    private static void twoHistories() {
        Supplier<RestoreDesk> first = () -> {
            RestoreDesk desk = Check.deskOf("pages 2; piece 2; copy; take 0 0; take 0 1; close 0;");
            desk.hold(0);
            desk.write(0, 5);
            desk.add(1, 6);
            desk.mark(7);
            desk.copy(0);
            desk.take(1, 1);
            desk.close(1);
            desk.restore(0, 0, 2);
            desk.add(0, 8);
            desk.copy(1);
            desk.take(2, 0);
            desk.restore(0, 1, 1);
            desk.copy(-1);
            desk.take(3, 0);
            desk.write(1, 3);
            return desk;
        };
        Supplier<RestoreDesk> second = () -> {
            RestoreDesk desk = first.get();
            desk.hold(1);
            desk.again(0);
            desk.mark(1);
            desk.write(1, 2);
            desk.write(0, 3);
            desk.write(0, 4);
            desk.copy(-1);
            desk.take(1, 0);
            desk.take(1, 1);
            desk.copy(-1);
            desk.take(2, 0);
            desk.close(2);
            desk.drop(2);
            desk.restore(0, 0, 1);
            desk.mark(4);
            desk.write(0, 9);
            desk.copy(2);
            desk.take(3, 0);
            desk.restore(0, 0, 4);
            desk.mark(5);
            desk.twice(0, 0, false);
            return desk;
        };
        check.due("lines of the first", first.get().count(2), 3);
        check.due("lines of the second", second.get().count(2), 3);
        check.same("the first of two histories", Picture.of(() -> {
            RestoreDesk desk = second.get();
            desk.again(1);
            return desk;
        }), Picture.of(() -> {
            RestoreDesk desk = first.get();
            desk.hold(1);
            return desk;
        }));
        check.same("the second of two histories", Picture.of(() -> {
            RestoreDesk desk = second.get();
            desk.hold(2);
            desk.again(1);
            desk.mark(2);
            desk.again(2);
            return desk;
        }), Picture.of(() -> {
            RestoreDesk desk = second.get();
            desk.hold(2);
            return desk;
        }));
    }

    private static void count() {
        check.words("`int count(int what)`: 0 PAGES, 1 how many RECORDS a PIECE has, 2 LINES, 3 the LINE that goes on, 4 its PLACE, 5 RECORDS made,"
            + " 6 COPIES, 7 FIT ones (bits), 8 bytes on the tape, 9 KEPT pieces, 10 SLOTS that hold something, 11 TELLS done by the latest text,"
            + " 12 OPEN COPIES (bits), 13 DROPPED ones (bits), 14 MARKS of all RECORDS, 15 LINES that are a PARENT (bits). NONE for others.");
        RestoreDesk desk = Check.deskOf("pages 3; piece 2; copy; do 3; take 0 i; end; close 0; mark 1; write 1 1; mark 1; restore 0 0 2; mark 2; mark 2;"
            + " restore 0 1 1; do 4; upon 0; end; close 1; close 2;");
        desk.drop(2);
        desk.hold(0);
        desk.hold(2);
        desk.feed(0, 0, 0, 0, 0);
        desk.back(3);
        int[] due = {3, 2, 3, 2, 1, 5, 5, 3, 17, 2, 2, 18, 24, 4, 4, 3};
        for (int what = 0; what < due.length; what++) {
            check.due("count " + what, desk.count(what), due[what]);
        }
        for (int what : new int[] {-1, -2, 16, 17, 32, GREATEST, LEAST}) {
            check.due("count " + what, desk.count(what), -1);
        }
        Check.read(desk, "pages");
        check.due("tells, behind a text with a fault", desk.count(11), 18);
        Check.read(desk, "do 9; end;");
        check.due("tells, a do is none", desk.count(11), 0);
    }

    private static void countBits() {
        RestoreDesk ten = Check.deskOf("pages 1; do 10; copy; take i 0; end;");
        check.due("all are open", ten.count(12), 1023);
        for (int copy = 0; copy < 10; copy++) {
            ten.close(copy);
        }
        check.due("none is open", ten.count(12), 0);
        check.due("all are fit", ten.count(7), 1023);
        for (int copy = 0; copy < 10; copy++) {
            ten.drop(copy);
        }
        check.due("all are dropped", ten.count(13), 1023);
        check.due("none is fit", ten.count(7), 0);
        check.due("each but the last is a parent", Desks.eight().count(15), 127);
        check.due("line 0 alone is a parent", Check.deskOf("pages 1;" + ONE + " do 7; restore 0 0 0; end;").count(15), 1);
        check.due("none is a parent", new RestoreDesk().count(15), 0);
        RestoreDesk kept = Check.deskOf("pages 1; piece 2;" + ONE + " do 6; mark 1; end; lose 0 0; restore 0 0 3; mark 1;");
        check.due("kept, of all lines", kept.count(9), 3);
        kept.twice(0, 1, true);
        kept.twice(0, 2, false);
        check.due("a doubled one is one", kept.count(9), 3);
        check.due("of three lines that are long", Desks.with600().count(9), 74);
    }
}
