import java.util.function.Supplier;

/** The document's part II and promises 6 to 17, sentence by sentence. */
public final class EdgeStoreTest {
    private static final Check check = new Check("EdgeStoreTest");
    private static final int NO_RECORD = -1000000000;
    private static final int LEAST = Desks.LEAST;
    private static final int GREATEST = Desks.GREATEST;
    private static final String ONE = Desks.ONE;
    private static final String TO_238_BY_7 = Desks.TO_238_BY_7;
    private static final String TO_240_BY_8 = Desks.TO_240_BY_8;

    public static void main(String[] args) {
        lines();
        eightLines();
        ways();
        goesOn();
        records();
        wraps();
        asOf();
        place240();
        records600();
        piecesOfLine0();
        piecesOfForks();
        kept();
        fills();
        lostAndDoubled();
        tenCopies();
        takes();
        pagesOfCopies();
        fits();
        combined();
        dropped();
        none();
        branch();
        early();
        lacksAndUnlike();
        needed();
        keepers();
        atHand();
        done();
        write();
        add();
        mark();
        fill();
        copy();
        take();
        close();
        combine();
        drop();
        restore();
        lose();
        twice();
        check.end();
    }

    // ---- lines and records

    private static void lines() {
        check.words("LINES (timelines), 8 at most, numbered from 0 on: each has RECORDS at PLACES 1, 2 and so on;"
            + " but for LINE 0 a PARENT and a FORK: at PLACES up to its FORK it has what its PARENT has there.");
        RestoreDesk desk = Desks.branched();
        check.due("parent of 0", desk.line(0, 1), -2);
        check.due("fork of 0", desk.line(0, 2), -2);
        check.due("parent of 1", desk.line(1, 1), 0);
        check.due("fork of 1", desk.line(1, 2), 3);
        check.due("parent of 2", desk.line(2, 1), 1);
        check.due("fork of 2", desk.line(2, 2), 2);
        for (int line = 1; line < 3; line++) {
            int fork = desk.line(line, 2);
            for (int place = 1; place <= fork; place++) {
                for (int what = 0; what < 3; what++) {
                    check.due("a record of the parent", desk.record(line, place, what), desk.record(line - 1, place, what));
                }
            }
            check.due("the first of its own", desk.record(line, fork + 1, 2), line);
            check.due("place 0", desk.record(line, 0, 0), NO_RECORD);
        }
        desk.write(0, 77);
        check.due("what comes later", desk.value(2, 4), 77);
        check.due("is not the parent's", desk.value(1, 4), 10);
    }

    private static void eightLines() {
        RestoreDesk desk = Check.deskOf("pages 1;" + ONE);
        for (int line = 1; line < 8; line++) {
            check.due("restore", desk.restore(0, 0, 0), 0);
            check.due("the number of the new line", desk.count(3), line);
        }
        check.due("a 9th", desk.restore(0, 0, 0), 1);
        check.due("lines", desk.count(2), 8);
        check.due("line 7", desk.line(7, 0), 0);
        check.due("line 8", desk.line(8, 0), -1);
        check.due("line -1", desk.line(-1, 0), -1);
    }

    private static void ways() {
        check.words("The WAY of a LINE: itself, its PARENT, the PARENT of that, and so on to LINE 0.");
        RestoreDesk deep = Desks.eight();
        for (int line = 0; line < 8; line++) {
            check.due("lines of the way", deep.line(line, 3), line + 1);
            for (int i = 0; i <= line; i++) {
                check.due("way " + line + " " + i, deep.way(line, i), line - i);
            }
            check.due("behind line 0", deep.way(line, line + 1), -1);
        }
        RestoreDesk wide = Check.deskOf("pages 1;" + ONE + " do 7; restore 0 0 0; end;");
        for (int line = 1; line < 8; line++) {
            check.due("lines of the way", wide.line(line, 3), 2);
            check.due("the parent", wide.way(line, 1), 0);
            check.due("behind it", wide.way(line, 2), -1);
        }
    }

    private static void goesOn() {
        check.words("One goes on, at its PLACE (its last one).");
        RestoreDesk desk = Desks.branched();
        check.due("goes on", desk.count(3), 2);
        check.due("at", desk.count(4), 3);
        check.due("a record comes", desk.mark(1), 4);
        check.due("its line", desk.line(2, 0), 4);
        check.due("line 1", desk.line(1, 0), 5);
        check.due("line 0", desk.line(0, 0), 5);
        check.due("restore to line 0", desk.restore(0, 0, 4), 0);
        check.due("a new one goes on", desk.count(3), 3);
        check.due("at", desk.count(4), 4);
        check.due("a record comes", desk.mark(1), 5);
        check.due("line 2", desk.line(2, 0), 4);
    }

    private static void records() {
        check.words("A RECORD: a page is WRITTEN a value, so much is ADDED to it (32 bits that wrap), a MARK with a number, or EMPTY.");
        RestoreDesk desk = Check.deskOf("write 3 8; add 2 9; mark 7; fill; ");
        int[][] due = {{0, 3, 8}, {1, 2, 9}, {2, 7, 0}, {3, -2, 0}};
        for (int place = 1; place <= 4; place++) {
            check.due("sort", desk.record(0, place, 0), due[place - 1][0]);
            check.due("page or number", desk.record(0, place, 1), due[place - 1][1]);
            check.due("value", desk.value(0, place), due[place - 1][2]);
        }
        for (int number : new int[] {LEAST, -3, -2, -1, 0, 1, GREATEST}) {
            desk.mark(number);
            check.due("a mark of any number", desk.record(0, desk.count(4), 1), number);
            check.due("its sort", desk.record(0, desk.count(4), 0), 2);
        }
    }

    private static void wraps() {
        RestoreDesk desk = new RestoreDesk();
        desk.write(0, GREATEST);
        desk.add(0, 1);
        desk.add(0, GREATEST);
        desk.add(0, 1);
        desk.add(0, -1);
        desk.add(0, LEAST);
        int[] due = {0, GREATEST, LEAST, -1, 0, -1, GREATEST};
        for (int place = 0; place < due.length; place++) {
            check.due("page at " + place, desk.page(0, 0, place), due[place]);
        }
        desk.write(1, LEAST);
        desk.add(1, -1);
        check.due("below the least", desk.page(1, 0, 8), GREATEST);
        desk.add(1, LEAST);
        desk.add(1, LEAST);
        check.due("twice the least", desk.page(1, 0, 10), GREATEST);
        desk.copy(-1);
        desk.take(0, 1);
        check.due("as taken", desk.held(0, 1), GREATEST);
    }

    private static void asOf() {
        check.words("As of a LINE and PLACE a page is what RECORDS up to there make of 0.");
        RestoreDesk desk = Check.deskOf("pages 2;" + " copy; take 0 0; take 0 1; close 0; add 0 4; mark 0; add 0 5; write 0 1; write 1 9; add 0 2; restore 0 0 3; add 0 10; add 1 1;");
        int[][] zero = {{0, 4, 4, 9, 1, 1, 3}, {0, 4, 4, 9, 19, 19}};
        int[][] one = {{0, 0, 0, 0, 0, 9, 9}, {0, 0, 0, 0, 0, 1}};
        for (int line = 0; line < 2; line++) {
            for (int place = 0; place < zero[line].length; place++) {
                check.due("page 0 of " + line + " at " + place, desk.page(0, line, place), zero[line][place]);
                check.due("page 1 of " + line + " at " + place, desk.page(1, line, place), one[line][place]);
            }
        }
    }

    // ---- how many there can be

    private static void place240() {
        check.words("The PLACE of a LINE is 240 at most (with what it has of its PARENT), 600 RECORDS are made in all:"
            + " what would make one more is refused.");
        String to239 = "pages 1; piece 7;" + ONE + TO_238_BY_7 + " mark 2;";
        check.due("a 240th write", Check.deskOf(to239).write(0, 1), 240);
        check.due("a 240th add", Check.deskOf(to239).add(0, 1), 240);
        check.due("a 240th mark", Check.deskOf(to239).mark(1), 240);
        check.due("a fill beyond", Check.deskOf(to239).fill(), -1);
        check.due("a fill to 240", Check.deskOf("piece 8; do 29; mark 1; fill; end; mark 1;").fill(), 7);
        check.due("a fill to 240 by 3", Check.deskOf("piece 3; do 79; mark 1; fill; end; mark 1;").fill(), 2);
        RestoreDesk full = Desks.at240();
        check.due("place", full.count(4), 240);
        check.due("a 241st write", full.write(0, 1), -1);
        check.due("a 241st add", full.add(0, 1), -1);
        check.due("a 241st mark", full.mark(1), -1);
        check.due("a 241st by fill", full.fill(), -1);
        check.due("another line is not full", full.restore(0, 0, 239), 0);
        check.due("with what it has of its parent: the 240th", full.mark(1), 240);
        check.due("a 241st", full.mark(1), -1);
        RestoreDesk fork = Check.deskOf("pages 1; piece 8;" + ONE + TO_240_BY_8 + " restore 0 0 240;");
        check.due("place of a fork", fork.count(4), 240);
        check.due("a 241st of a fork", fork.mark(1), -1);
        check.due("a fill of a fork that is full", fork.fill(), 0);
    }

    private static void records600() {
        RestoreDesk desk = Desks.with600();
        check.due("records", desk.count(5), 600);
        check.due("place", desk.count(4), 4);
        check.due("a 601st write", desk.write(0, 1), -1);
        check.due("a 601st add", desk.add(0, 1), -1);
        check.due("a 601st mark", desk.mark(1), -1);
        check.due("a 601st by fill", desk.fill(), -1);
        check.due("no record is made by a restore", desk.restore(0, 0, 8), 0);
        check.due("a fill of nothing", desk.fill(), 0);
        check.due("a 601st of another line", desk.mark(1), -1);
        String to595 = "pages 1; piece 7;" + ONE + TO_238_BY_7 + " restore 0 0 0;" + TO_238_BY_7 + " restore 0 1 0; do 17; mark 1; fill; end;";
        RestoreDesk just = Check.deskOf(to595 + " restore 0 2 2;");
        check.due("records", just.count(5), 595);
        check.due("a fill to 600", just.fill(), 5);
        check.due("records", just.count(5), 600);
        check.due("a 601st", just.mark(1), -1);
        check.nothing("a fill to 601", Desks.text(to595 + " restore 0 2 1;"), RestoreDesk::fill, -1);
        RestoreDesk some = Check.deskOf(to595 + " restore 0 2 1;");
        for (int n = 0; n < 5; n++) {
            check.due("one of the last", some.mark(1), 2 + n);
        }
        check.due("a 601st", some.mark(1), -1);
    }

    // ---- pieces

    private static void piecesOfLine0() {
        check.words("PIECE k (0, 1 ..) of a LINE: its RECORDS at PLACES k times how many a PIECE has and 1, to (k and 1) times that;"
            + " a LINE has pieces from that on in which its FORK's next PLACE is (LINE 0: 0), to that in which its own PLACE is,"
            + " be it by its PARENT's RECORDS alone (it has none if that is a lesser one, or at PLACE 0).");
        for (int size = 2; size <= 8; size++) {
            RestoreDesk desk = Check.deskOf("piece " + size + ";");
            for (int place = 0; place <= 3 * size; place++) {
                for (int piece = -1; piece <= 4; piece++) {
                    boolean begun = piece >= 0 && place >= piece * size + 1;
                    boolean full = begun && place >= (piece + 1) * size;
                    check.due("piece " + piece + " of " + size + " at " + place, desk.piece(0, piece), full ? 1 : begun ? 0 : -1);
                }
                check.due("its first", desk.line(0, 4), 0);
                desk.mark(1);
            }
        }
    }

    private static void piecesOfForks() {
        for (int size = 2; size <= 4; size++) {
            for (int fork = 0; fork <= 8; fork++) {
                RestoreDesk desk = Check.deskOf("pages 1; piece " + size + ";" + ONE + " do 9; mark 1; end; restore 0 0 " + fork + ";");
                int first = 0;
                while ((first + 1) * size < fork + 1) {
                    first++;
                }
                check.due("the first of a fork at " + fork, desk.line(1, 4), first);
                for (int place = fork; place <= fork + 5; place++) {
                    for (int piece = 0; piece <= 7; piece++) {
                        boolean there = piece >= first && place >= piece * size + 1;
                        boolean full = place >= (piece + 1) * size;
                        check.due("piece " + piece + " by " + size + " of a fork at " + fork + " at " + place,
                            desk.piece(1, piece), !there ? -1 : full ? 1 : 0);
                    }
                    desk.mark(2);
                }
            }
        }
        check.due("a fork at 0 has none", Check.deskOf("pages 1;" + ONE + " restore 0 0 0;").piece(1, 0), -1);
        check.due("a fork at a piece's last has none", Check.deskOf("pages 1;" + ONE + " do 4; mark 1; end; restore 0 0 4;").piece(1, 0), -1);
        check.due("nor the next", Check.deskOf("pages 1;" + ONE + " do 4; mark 1; end; restore 0 0 4;").piece(1, 1), -1);
        check.due("by its parent's records alone", Check.deskOf("pages 1;" + ONE + " do 4; mark 1; end; restore 0 0 3;").piece(1, 0), 0);
        check.due("not the one ahead of it", Check.deskOf("pages 1;" + ONE + " do 9; mark 1; end; restore 0 0 5;").piece(1, 0), -1);
    }

    private static void kept() {
        check.words("A PIECE of the LINE that goes on is KEPT as its last RECORD comes.");
        RestoreDesk desk = Check.deskOf("pages 1; piece 3;" + ONE + " mark 1; mark 2;");
        check.due("ahead of its last", desk.count(9), 0);
        desk.mark(3);
        check.due("with its last", desk.count(9), 1);
        desk.lose(0, 0);
        desk.mark(4);
        check.due("it is lost, and stays so", desk.piece(0, 0), 0);
        desk.restore(0, 0, 2);
        check.due("that of a fork is not kept", desk.piece(1, 0), 0);
        desk.write(0, 5);
        check.due("till its last comes", desk.piece(1, 0), 1);
        check.due("that of its parent is lost still", desk.piece(0, 0), 0);
        check.due("the other of its parent is not full", desk.piece(0, 1), 0);
        check.due("by fill", Check.deskOf("piece 8; mark 1; fill;").piece(0, 0), 1);
        check.due("by write", Check.deskOf("piece 2; mark 1; write 0 0;").piece(0, 0), 1);
        check.due("by add", Check.deskOf("piece 2; mark 1; add 0 0;").piece(0, 0), 1);
        check.due("the last of all", Check.deskOf("piece 2; do 99; mark 1; end; do 99; mark 1; end; do 42; mark 1; end;").piece(0, 119), 1);
    }

    private static void fills() {
        check.words("fill: EMPTY RECORDS come till it is (nothing, if the PLACE is a PIECE's last, or 0).");
        for (int size = 2; size <= 8; size++) {
            RestoreDesk none = Check.deskOf("piece " + size + ";");
            check.due("at 0", none.fill(), 0);
            check.due("place", none.count(4), 0);
            for (int ahead = 1; ahead <= size; ahead++) {
                RestoreDesk desk = Check.deskOf("piece " + size + "; do " + ahead + "; mark 1; end;");
                check.due("how many", desk.fill(), size - ahead);
                check.due("place", desk.count(4), size);
                check.due("kept", desk.piece(0, 0), 1);
                check.due("none more", desk.fill(), 0);
                for (int place = ahead + 1; place <= size; place++) {
                    check.due("empty", desk.record(0, place, 0), 3);
                }
                check.due("ahead of them", desk.record(0, ahead, 0), 2);
            }
        }
        RestoreDesk fork = Check.deskOf("pages 1; piece 5;" + ONE + " do 9; mark 1; end; restore 0 0 6;");
        check.due("of a fork", fork.fill(), 4);
        check.due("their line", fork.record(1, 7, 2), 1);
        RestoreDesk even = Check.deskOf("pages 1; piece 3;" + ONE + " do 9; mark 1; end; restore 0 0 6;");
        check.due("of a fork at a piece's last", even.fill(), 0);
        check.due("of a fork at 0", Check.deskOf("pages 1;" + ONE + " mark 1; restore 0 0 0;").fill(), 0);
    }

    private static void lostAndDoubled() {
        check.words("KEPT pieces can be LOST; DOUBLED: KEPT twice, alike or unlike.");
        RestoreDesk desk = Check.deskOf("piece 2; do 5; mark 1; end;");
        check.due("lose", desk.lose(0, 0), true);
        check.due("it is not kept", desk.piece(0, 0), 0);
        check.due("one that is not full", desk.lose(0, 2), false);
        check.due("alike", desk.twice(0, 1, true), true);
        check.due("it is", desk.piece(0, 1), 2);
        check.due("a doubled one is kept", desk.count(9), 1);
        check.due("unlike", desk.twice(0, 1, false), true);
        check.due("it is", desk.piece(0, 1), 3);
        check.due("an unlike one is kept", desk.count(9), 1);
        check.due("a doubled one can be lost", desk.lose(0, 1), true);
        check.due("none is kept", desk.count(9), 0);
        check.due("a lost one is not doubled", desk.twice(0, 1, false), false);
    }

    // ---- copies

    private static void tenCopies() {
        check.words("COPIES, 10 at most (DROPPED ones, too; one can be UPON such a one), numbered from 0 on:"
            + " each is of the LINE that went on when it was begun, UPON another one or not, OPEN till it is CLOSED.");
        RestoreDesk desk = new RestoreDesk();
        for (int copy = 0; copy < 10; copy++) {
            check.due("copy", desk.copy(copy - 1), copy);
            check.due("open", desk.made(copy, 2), 1);
        }
        check.due("an 11th", desk.copy(-1), -1);
        check.due("the 10th is upon the 9th", desk.made(9, 1), 8);
        check.due("no copy 10", desk.made(10, 0), -1);
        for (int copy = 9; copy >= 0; copy--) {
            check.due("close", desk.close(copy), true);
            check.due("closed", desk.made(copy, 2), 0);
            check.due("drop", desk.drop(copy), true);
        }
        check.due("dropped ones count", desk.copy(-1), -1);
        check.due("copies", desk.count(6), 10);
        RestoreDesk upon = Check.deskOf("pages 1; copy; close 0;");
        upon.drop(0);
        check.due("upon a dropped one", upon.copy(0), 1);
        check.due("it is", upon.made(1, 1), 0);
        RestoreDesk lines = Desks.branched();
        check.due("of line 0", lines.made(0, 0), 0);
        check.due("of line 2", lines.made(1, 0), 2);
        lines.restore(0, 0, 1);
        check.due("it stays of line 2", lines.made(1, 0), 2);
        check.due("copy", lines.copy(1), 3);
        check.due("upon one of another line", lines.made(3, 1), 1);
        check.due("of line 3", lines.made(3, 0), 3);
    }

    private static void takes() {
        check.words("TAKE: a page of an OPEN one of the LINE that goes on is taken as it is now, with the PLACE now; taken once more: anew.");
        RestoreDesk desk = Check.deskOf("pages 2; copy; copy; write 0 5; take 0 0; add 0 2; take 0 1; add 1 1; mark 1;");
        check.due("as it was", desk.held(0, 0), 5);
        check.due("with the place", desk.taken(0, 0), 1);
        check.due("page 1", desk.held(0, 1), 0);
        check.due("with the place", desk.taken(0, 1), 2);
        check.due("anew", desk.take(0, 0), true);
        check.due("as it is now", desk.held(0, 0), 7);
        check.due("with the place now", desk.taken(0, 0), 4);
        check.due("the other page stays", desk.taken(0, 1), 2);
        check.due("pages taken", desk.made(0, 3), 3);
        check.due("another copy has none", desk.made(1, 3), 0);
        desk.close(0);
        check.due("a closed one", desk.take(0, 0), false);
        check.due("at place 0", placeZero(), 0);
        RestoreDesk fork = Desks.branched();
        check.due("of a line that goes on", fork.take(1, 1), true);
        check.due("source", fork.source(1, 1), 2);
        fork.restore(0, 0, 1);
        check.due("that goes on no more", fork.take(1, 1), false);
    }

    private static int placeZero() {
        RestoreDesk desk = Check.deskOf("pages 1; copy; take 0 0;");
        return desk.taken(0, 0);
    }

    private static void pagesOfCopies() {
        check.words("A page of a COPY: as taken; else as of that UPON which it is; else it lacks.");
        RestoreDesk desk = Check.deskOf("pages 4; copy; write 0 1; write 1 2; take 0 0; take 0 1; upon 0; write 1 3; write 2 4; take 1 1; take 1 2; upon 1; write 2 5; take 2 2;");
        int[][] held = {{1, 2, 0, 0}, {1, 3, 4, 0}, {1, 3, 5, 0}};
        int[][] taken = {{2, 2, -2, -2}, {2, 4, 4, -2}, {2, 4, 5, -2}};
        int[] own = {3, 6, 4};
        int[] all = {3, 7, 7};
        for (int copy = 0; copy < 3; copy++) {
            check.due("its own", desk.made(copy, 3), own[copy]);
            check.due("all it has", desk.made(copy, 4), all[copy]);
            for (int page = 0; page < 4; page++) {
                check.due("held " + copy + " " + page, desk.held(copy, page), held[copy][page]);
                check.due("taken " + copy + " " + page, desk.taken(copy, page), taken[copy][page]);
                check.due("source " + copy + " " + page, desk.source(copy, page), taken[copy][page] < 0 ? -2 : 0);
            }
        }
        RestoreDesk longest = Check.deskOf("pages 2; write 0 6; mark 1; copy; take 0 0; do 9; upon i; end;");
        check.due("the last of ten", longest.held(9, 0), 6);
        check.due("its place", longest.taken(9, 0), 2);
        check.due("its line", longest.source(9, 0), 0);
        check.due("a page that lacks in all ten", longest.taken(9, 1), -2);
        // one upon which others are may be open still: what is taken anew there is theirs, too
        desk.write(3, 9);
        desk.write(0, 8);
        desk.take(0, 3);
        desk.take(0, 0);
        check.due("a page that lacked", desk.held(2, 3), 9);
        check.due("a page taken anew", desk.held(2, 0), 8);
        check.due("its place", desk.taken(2, 0), 7);
        check.due("its own page stays", desk.held(2, 1), 3);
    }

    private static void fits() {
        check.words("FIT: it is CLOSED, so is each UPON which it is, and so on, none of these is DROPPED, and no page lacks.");
        // three upon one another, closed in each order: fit is what is closed down to the first
        for (int last = 0; last < 3; last++) {
            RestoreDesk desk = Check.deskOf("pages 2; copy; take 0 0; take 0 1; upon 0; upon 1;");
            for (int copy = 0; copy < 3; copy++) {
                if (copy != last) {
                    desk.close(copy);
                }
            }
            check.due("open: " + last, desk.count(7), (1 << last) - 1);
            desk.close(last);
            check.due("all closed", desk.count(7), 7);
        }
        RestoreDesk first = Check.deskOf("pages 2; copy; take 0 0; take 0 1; close 0;");
        check.due("fit", first.made(0, 5), 1);
        first.drop(0);
        check.due("dropped", first.made(0, 5), 0);
        first.copy(0);
        first.take(1, 0);
        first.take(1, 1);
        first.close(1);
        check.due("upon a dropped one", first.made(1, 5), 0);
        first.copy(1);
        first.close(2);
        check.due("and so on", first.made(2, 5), 0);
        // the longest there can be: it is fit as the first of it is closed, till that is dropped
        RestoreDesk longest = Check.deskOf("pages 1; copy; take 0 0; do 9; upon i; close i+1; end;");
        check.due("the first is open", longest.count(7), 0);
        longest.close(0);
        check.due("all are closed", longest.count(7), 1023);
        RestoreDesk gone = Check.deskOf("pages 1; copy; take 0 0; close 0;");
        gone.drop(0);
        for (int copy = 1; copy < 10; copy++) {
            gone.copy(copy - 1);
            gone.close(copy);
        }
        check.due("the first is dropped", gone.count(7), 0);
        check.due("the last has its page", gone.made(9, 4), 1);
        for (int lacks = 0; lacks < 8; lacks++) {
            RestoreDesk desk = Check.deskOf("pages 8; copy; upon 0; do 8; take 1 i; end;");
            for (int page = 0; page < 8; page++) {
                if (page != lacks) {
                    desk.take(0, page);
                }
            }
            desk.close(0);
            desk.close(1);
            check.due("page " + lacks + " lacks", desk.made(0, 5), 0);
            check.due("no page lacks", desk.made(1, 5), 1);
        }
    }

    private static void combined() {
        check.words("COMBINED: of a FIT one a new COPY, CLOSED, UPON none, of its LINE, with all its pages as they are there,"
            + " each as taken of the LINE and PLACE of which it was.");
        RestoreDesk desk = Check.deskOf("pages 2; write 0 1; copy; take 0 0; take 0 1; close 0; restore 0 0 1; write 1 7; upon 0; take 1 1;"
            + " close 1; restore 1 1 2; write 0 9; write 1 9;");
        check.due("combine", desk.combine(1), 2);
        int[] made = {1, -2, 0, 3, 3, 1, 1, 0};
        for (int what = 0; what < made.length; what++) {
            check.due("made " + what, desk.made(2, what), made[what]);
        }
        check.due("page 0", desk.held(2, 0), 1);
        check.due("its line", desk.source(2, 0), 0);
        check.due("its place", desk.taken(2, 0), 1);
        check.due("page 1", desk.held(2, 1), 7);
        check.due("its line", desk.source(2, 1), 1);
        check.due("its place", desk.taken(2, 1), 2);
        check.due("that of which it is goes its own way", desk.drop(1), true);
        check.due("and so does that one", desk.drop(0), true);
        check.due("it is fit", desk.count(7), 4);
        check.due("page 0", desk.held(2, 0), 1);
    }

    private static void dropped() {
        check.words("DROPPED: a CLOSED one that no other one, not DROPPED, is UPON;");
        RestoreDesk desk = Check.deskOf("pages 1; copy; take 0 0; upon 0; upon 0; upon 1;");
        check.due("an open one", desk.drop(3), false);
        desk.close(0);
        desk.close(1);
        check.due("with two open or closed ones", desk.drop(0), false);
        check.due("with an open one", desk.drop(1), false);
        desk.close(3);
        check.due("with a closed one", desk.drop(1), false);
        check.due("with none", desk.drop(3), true);
        check.due("with a dropped one", desk.drop(1), true);
        check.due("with a dropped one and an open one", desk.drop(0), false);
        desk.close(2);
        check.due("with a dropped one and a closed one", desk.drop(0), false);
        check.due("with none", desk.drop(2), true);
        check.due("with dropped ones", desk.drop(0), true);
        check.due("dropped ones", desk.count(13), 15);
        check.due("one upon a dropped one", desk.copy(0), 4);
        desk.close(4);
        check.due("can be dropped", desk.drop(4), true);
    }

    // ---- restores

    private static void none() {
        check.words("RESTORE of a COPY to a LINE and PLACE comes out as (the first that holds): 1 no such ones, not FIT;");
        RestoreDesk desk = Desks.plain();
        for (int copy : new int[] {-1, -2, 2, 3, 10, GREATEST, LEAST}) {
            check.due("copy " + copy, desk.would(copy, 0, 5), 1);
        }
        for (int line : new int[] {-1, -2, 1, 7, 8, GREATEST, LEAST}) {
            check.due("line " + line, desk.would(0, line, 0), 1);
        }
        for (int place : new int[] {-1, -2, 6, 7, 240, 241, GREATEST, LEAST}) {
            check.due("place " + place, desk.would(0, 0, place), 1);
            check.due("place " + place + " ahead of early", desk.would(1, 0, place), 1);
        }
        desk.copy(0);
        check.due("open", desk.would(2, 0, 5), 1);
        desk.close(2);
        check.due("closed", desk.would(2, 0, 5), 0);
        desk.drop(2);
        check.due("dropped", desk.would(2, 0, 5), 1);
        desk.copy(-1);
        desk.take(3, 0);
        desk.close(3);
        check.due("a page lacks", desk.would(3, 0, 5), 1);
        check.due("not fit, ahead of early", desk.would(3, 0, 0), 1);
    }

    private static void branch() {
        check.words("2 BRANCH: a page of it was taken of a LINE that is not on the WAY of the LINE,"
            + " or at a PLACE greater than the FORK of any LINE ahead of that on the WAY;");
        // copy c is of line 0 at place c; line 1 forks at 4 of line 0, line 2 at 2 of line 1, line 3 at 2 of line 0, line 4 at 4 of line 3
        String six = "pages 1; copy; take 0 0; close 0; do 6; mark 1; copy; take i+1 0; close i+1; end;";
        RestoreDesk desk = Check.deskOf(six + " restore 0 0 4; mark 1; mark 1; restore 0 1 2; mark 1; mark 1; mark 1; mark 1;"
            + " restore 0 0 2; mark 1; copy; take 7 0; close 7; mark 1; restore 0 3 4; mark 1; mark 1;");
        for (int copy = 0; copy <= 6; copy++) {
            check.due("line 0", desk.would(copy, 0, 6), 0);
            check.due("line 1, that forks at 4", desk.would(copy, 1, 6), copy > 4 ? 2 : 0);
            check.due("line 2, at 2 of one at 4", desk.would(copy, 2, 6), copy > 2 ? 2 : 0);
            check.due("line 3, that forks at 2", desk.would(copy, 3, 4), copy > 2 ? 2 : 0);
            check.due("line 4, at 4 of one at 2", desk.would(copy, 4, 6), copy > 2 ? 2 : 0);
        }
        check.due("of line 3 at 3, to itself", desk.would(7, 3, 4), 0);
        check.due("to line 4 that forks at 4", desk.would(7, 4, 6), 0);
        check.due("to line 0, its parent", desk.would(7, 0, 6), 2);
        check.due("to line 1, that is not on its way", desk.would(7, 1, 6), 2);
        check.due("ahead of early", desk.would(7, 0, 0), 2);
        check.due("at a place that both have", desk.would(6, 1, 1), 2);
        // at place 0 of another line
        RestoreDesk zero = Check.deskOf("pages 1;" + ONE + " mark 1; restore 0 0 0; copy; take 1 0; close 1; restore 0 0 0; restore 1 1 0;");
        check.due("of line 1 at 0, to line 0", zero.would(1, 0, 0), 2);
        check.due("of line 1 at 0, to line 0", zero.would(1, 0, 1), 2);
        check.due("of line 1 at 0, to line 1", zero.would(1, 1, 0), 0);
        check.due("of line 1 at 0, to line 2", zero.would(1, 2, 0), 2);
        check.due("of line 1 at 0, to line 3 of line 1", zero.would(1, 3, 0), 0);
        check.due("of line 0 at 0, to each", zero.would(0, 3, 0), 0);
        // one page of many
        RestoreDesk pages = Check.deskOf("pages 3; copy; take 0 0; take 0 1; take 0 2; close 0; restore 0 0 0; mark 1;"
            + " upon 0; take 1 0; close 1; upon 0; take 2 1; close 2; upon 0; take 3 2; close 3;");
        for (int copy = 1; copy <= 3; copy++) {
            check.due("one page of line 1 to line 0", pages.would(copy, 0, 0), 2);
            check.due("to line 1", pages.would(copy, 1, 1), 0);
        }
    }

    private static void early() {
        check.words("3 EARLY: a page was taken at a greater PLACE;");
        RestoreDesk desk = Desks.plain();
        for (int place = 0; place <= 5; place++) {
            check.due("copy 0 at " + place, desk.would(0, 0, place), 0);
            check.due("copy 1 at " + place, desk.would(1, 0, place), place < 4 ? 3 : 0);
        }
        for (int page = 0; page < 3; page++) {
            RestoreDesk one = Check.deskOf("pages 3; mark 1; copy; take 0 0; take 0 1; take 0 2; mark 1; mark 1; take 0 " + page + "; close 0;");
            check.due("a page at 3 to 2", one.would(0, 0, 2), 3);
            check.due("a page at 3 to 3", one.would(0, 0, 3), 0);
        }
        desk.lose(0, 0);
        desk.lose(0, 1);
        check.due("ahead of lacks", desk.would(1, 0, 3), 3);
    }

    private static void lacksAndUnlike() {
        check.words("4 LACKS, 5 UNLIKE: of the first PIECE NEEDED that is not at hand, or is KEPT twice and unlike; 0 it is done.");
        // six pieces of 2, each in one of the ways: what comes first decides
        String text = "pages 1; piece 2;" + ONE + " do 12; write 0 i; end;";
        for (int bad = 0; bad < 6; bad++) {
            RestoreDesk desk = Check.deskOf(text);
            desk.lose(0, bad);
            RestoreDesk other = Check.deskOf(text);
            other.twice(0, bad, false);
            RestoreDesk alike = Check.deskOf(text);
            alike.twice(0, bad, true);
            for (int place = 0; place <= 12; place++) {
                boolean reached = place > 2 * bad;
                check.due("lost " + bad + " to " + place, desk.would(0, 0, place), reached ? 4 : 0);
                check.due("unlike " + bad + " to " + place, other.would(0, 0, place), reached ? 5 : 0);
                check.due("alike " + bad + " to " + place, alike.would(0, 0, place), 0);
                check.dueName("named", Check.named(desk, 0, 0, place), reached ? "t0p" + bad : "ok");
            }
        }
        RestoreDesk both = Check.deskOf(text);
        both.lose(0, 1);
        both.twice(0, 3, false);
        check.due("lost, then unlike", both.would(0, 0, 12), 4);
        both = Check.deskOf(text);
        both.twice(0, 1, false);
        both.lose(0, 3);
        check.due("unlike, then lost", both.would(0, 0, 12), 5);
        both.lose(0, 1);
        check.due("unlike and lost", both.would(0, 0, 12), 4);
    }

    private static void needs(RestoreDesk desk, int place, int many, int first) {
        check.due("needed to " + place, desk.needs(0, 0, place, 0), many);
        check.due("the first to " + place, desk.needs(0, 0, place, 1), first);
    }

    private static void needed() {
        check.words("NEEDED: of the LINE all RECORDS from the least PLACE on at which any page is WRITTEN or ADDED to behind the PLACE"
            + " of which it was taken, to the PLACE (there is none: nothing is NEEDED); the pieces in which these are,"
            + " each of the first LINE of the WAY that has pieces from that number on, or from a lesser one.");
        RestoreDesk at = Check.deskOf("pages 1; mark 1; write 0 5; copy; take 0 0; close 0; mark 2; mark 3; add 0 0; mark 4;");
        needs(at, 2, 0, -2);
        needs(at, 3, 0, -2);
        needs(at, 4, 0, -2);
        needs(at, 5, 1, 5);
        needs(at, 6, 2, 5);
        RestoreDesk next = Check.deskOf("pages 1; write 0 5; copy; take 0 0; close 0; write 0 5; fill;");
        needs(next, 1, 0, -2);
        needs(next, 2, 1, 2);
        needs(next, 4, 3, 2);
        // page 0 is taken at 4, page 1 at 1; page 0 is changed at 3 and 6, page 1 at 5: from 5 on
        RestoreDesk two = Check.deskOf("pages 2; mark 1; copy; take 0 1; mark 1; write 0 1; mark 1; take 0 0; close 0; write 1 1; write 0 2;");
        needs(two, 4, 0, -2);
        needs(two, 5, 1, 5);
        needs(two, 6, 2, 5);
        // page 1 is changed at 2 already: from 2 on, though page 0 is not taken till 4
        RestoreDesk least = Check.deskOf("pages 2; mark 1; copy; take 0 1; write 1 1; write 0 1; mark 1; take 0 0; close 0; write 1 1; write 0 2;");
        needs(least, 4, 3, 2);
        needs(least, 6, 5, 2);
        check.due("none at all", Check.deskOf("pages 1;" + ONE + " mark 0; fill;").needs(0, 0, 4, 0), 0);
        // by its way
        RestoreDesk way = Check.deskOf("pages 1; piece 2;" + ONE + " mark 1; write 0 1; write 0 2; restore 0 0 1; mark 1; mark 1; write 0 3;");
        check.due("line 1 to 3", way.needs(0, 1, 3, 0), 0);
        check.due("line 1 to 4", way.needs(0, 1, 4, 1), 4);
        check.due("line 0 to 3", way.needs(0, 0, 3, 0), 2);
    }

    private static void keepers() {
        // pieces of 4; line 0 to 12; line 1 forks at 6 to 14; line 2 forks at 8 of line 1 to 14; line 3 forks at 2 of line 2
        String text = "pages 1; piece 4;" + ONE + " do 12; add 0 1; end; restore 0 0 6; do 8; add 0 1; end; restore 0 1 8; do 6; add 0 1; end;";
        int[][] keepers = {{0, 0, 0, -1}, {0, 1, 1, 1}, {0, 1, 2, 2}};
        int[] tips = {12, 14, 14};
        for (int line = 0; line < 3; line++) {
            for (int piece = 0; piece < 3; piece++) {
                for (int lost = 0; lost < 3; lost++) {
                    RestoreDesk desk = Check.deskOf(text);
                    boolean gone = desk.lose(lost, piece);
                    boolean hit = gone && keepers[line][piece] == lost;
                    String due = hit ? "t" + lost + "p" + piece : line == 1 ? "t1p3" : "ok";
                    check.dueName("line " + line + " without t" + lost + "p" + piece, Check.named(desk, 0, line, tips[line]), due);
                }
            }
        }
        RestoreDesk desk = Check.deskOf(text + " restore 0 2 2;");
        check.due("its piece 0 by its parent's records alone", desk.would(0, 3, 2), 0);
        desk.lose(0, 0);
        check.due("and not that of line 0", desk.would(0, 3, 2), 0);
        check.dueName("line 2 has it of line 0", Check.named(desk, 0, 2, 14), "t0p0");
        check.due("restore of nothing needed", desk.restore(0, 0, 0), 0);
        check.dueName("line 3 goes on no more", Check.named(desk, 0, 3, 2), "t3p0");
    }

    private static void atHand() {
        check.words("At hand: KEPT, or of the LINE that goes on and not full yet.");
        RestoreDesk desk = Check.deskOf("pages 1; piece 2;" + ONE + " write 0 1;");
        check.due("not full yet", desk.would(0, 0, 1), 0);
        desk.write(0, 2);
        check.due("kept", desk.would(0, 0, 2), 0);
        desk.lose(0, 0);
        check.due("full, and lost", desk.would(0, 0, 2), 4);
        RestoreDesk fork = Check.deskOf("pages 1; piece 4;" + ONE + " write 0 1; write 0 2; restore 0 0 1;");
        check.due("of a line that goes on no more", fork.would(0, 0, 2), 4);
        check.due("of the line that goes on, by its parent's record", fork.would(0, 1, 1), 0);
        fork.write(0, 3);
        check.due("of the line that goes on", fork.would(0, 1, 2), 0);
        check.due("gaps of line 0", fork.gaps(0, 0), 1);
        check.due("gaps of line 1", fork.gaps(1, 0), 0);
    }

    private static void done() {
        check.words("Done: a new LINE, of that PARENT and FORK, goes on, its pages are as of there.");
        RestoreDesk desk = Desks.plain();
        check.due("restore", desk.restore(0, 0, 3), 0);
        check.due("lines", desk.count(2), 2);
        check.due("goes on", desk.count(3), 1);
        check.due("place", desk.count(4), 3);
        check.due("parent", desk.line(1, 1), 0);
        check.due("fork", desk.line(1, 2), 3);
        check.due("page 0", desk.page(0, 1, 3), 1);
        check.due("page 1", desk.page(1, 1, 3), 3);
        check.due("added", desk.add(1, 10), 4);
        check.due("page 1", desk.page(1, 1, 4), 13);
        check.due("to a place ahead of its fork", desk.restore(0, 1, 2), 0);
        check.due("parent", desk.line(2, 1), 1);
        check.due("fork", desk.line(2, 2), 2);
        check.due("page 1", desk.page(1, 2, 2), 2);
        check.due("to place 0", desk.restore(0, 2, 0), 0);
        check.due("page 0", desk.page(0, 3, 0), 0);
        check.due("page 0 of line 0", desk.page(0, 0, 5), 5);
    }

    // ---- the calls

    private static void write() {
        check.words("`int write(int page, int value)`: A page is WRITTEN: the PLACE then; NONE, and nothing happens: no such page, refused.");
        RestoreDesk desk = Desks.branched();
        check.due("write", desk.write(0, LEAST), 4);
        check.due("write", desk.write(1, GREATEST), 5);
        check.due("page 0", desk.page(0, 2, 5), LEAST);
        check.due("page 1", desk.page(1, 2, 5), GREATEST);
        check.due("records made", desk.count(5), 10);
        for (int page : new int[] {-1, 2, 3, 8, 31, 32, GREATEST, LEAST}) {
            check.nothing("write of page " + page, Desks::branched, some -> some.write(page, 5), -1);
        }
        check.nothing("a 241st write", Desks::at240, full -> full.write(0, 1), -1);
        check.nothing("a 601st write", Desks::with600, full -> full.write(0, 1), -1);
    }

    private static void add() {
        check.words("`int add(int page, int much)`: So much is ADDED: likewise.");
        RestoreDesk desk = Desks.branched();
        check.due("add", desk.add(0, -20), 4);
        check.due("add", desk.add(1, GREATEST), 5);
        check.due("page 0", desk.page(0, 2, 5), -12);
        check.due("page 1", desk.page(1, 2, 5), LEAST);
        for (int page : new int[] {-1, 2, 3, 8, 31, 32, GREATEST, LEAST}) {
            check.nothing("add to page " + page, Desks::branched, some -> some.add(page, 5), -1);
        }
        check.nothing("a 241st add", Desks::at240, full -> full.add(0, 1), -1);
        check.nothing("a 601st add", Desks::with600, full -> full.add(0, 1), -1);
    }

    private static void mark() {
        check.words("`int mark(int number)`: A MARK of a number comes: the PLACE then; NONE, and nothing happens: refused.");
        RestoreDesk desk = Desks.branched();
        check.due("mark", desk.mark(-1), 4);
        check.due("mark", desk.mark(LEAST), 5);
        check.due("mark", desk.mark(GREATEST), 6);
        check.due("its number", desk.record(2, 6, 1), GREATEST);
        check.nothing("a 241st mark", Desks::at240, full -> full.mark(1), -1);
        check.nothing("a 601st mark", Desks::with600, full -> full.mark(1), -1);
    }

    private static void fill() {
        check.words("`int fill()`: EMPTY RECORDS come: how many; NONE, and nothing happens: refused (all of them, if one would be).");
        check.due("fill", Desks.branched().fill(), 1);
        check.nothing("a fill at 239 by 7", Desks.text("pages 1; piece 7;" + ONE + TO_238_BY_7 + " mark 2;"), RestoreDesk::fill, -1);
        check.nothing("a fill at 240 by 7", Desks::at240, RestoreDesk::fill, -1);
        check.nothing("a fill at 600", Desks::with600, RestoreDesk::fill, -1);
        check.nothing("a fill at 0", RestoreDesk::new, RestoreDesk::fill, 0);
        check.nothing("a fill at a piece's last", Desks.text("piece 2; mark 1; mark 2;"), RestoreDesk::fill, 0);
    }

    private static void copy() {
        check.words("`int copy(int upon)`: A COPY is begun, UPON another one (NONE: on none): its number;"
            + " NONE, and nothing happens: 10 are there, no such one.");
        RestoreDesk desk = Desks.branched();
        check.due("on none", desk.copy(RestoreDesk.NONE), 3);
        check.due("it is", desk.made(3, 1), -2);
        check.due("upon", desk.copy(2), 4);
        check.due("it is", desk.made(4, 1), 2);
        check.due("open", desk.made(4, 2), 1);
        for (int upon : new int[] {-2, 3, 9, 10, GREATEST, LEAST}) {
            check.nothing("upon " + upon, Desks::branched, some -> some.copy(upon), -1);
        }
        check.nothing("an 11th on none", Desks::ten, some -> some.copy(-1), -1);
        check.nothing("an 11th upon one", Desks::ten, some -> some.copy(0), -1);
    }

    private static void take() {
        check.words("`boolean take(int copy, int page)`: TAKE: true; false, and nothing happens: not OPEN, of another LINE, no such ones.");
        check.due("take", Desks.branched().take(1, 1), true);
        check.nothing("of a closed one", Desks::branched, desk -> Check.bit(desk.take(2, 0)), 0);
        check.nothing("of another line", () -> {
            RestoreDesk desk = Desks.branched();
            desk.restore(0, 0, 1);
            return desk;
        }, desk -> Check.bit(desk.take(1, 1)), 0);
        for (int none : new int[] {-1, -2, 3, 10, 32, GREATEST, LEAST}) {
            check.nothing("of copy " + none, Desks::branched, desk -> Check.bit(desk.take(none, 0)), 0);
        }
        for (int none : new int[] {-1, 2, 8, 32, GREATEST, LEAST}) {
            check.nothing("of page " + none, Desks::branched, desk -> Check.bit(desk.take(1, none)), 0);
        }
    }

    private static void close() {
        check.words("`boolean close(int copy)`: A COPY is CLOSED: true; false, and nothing happens: it is, no such one.");
        RestoreDesk desk = Desks.branched();
        desk.restore(0, 0, 1);
        check.due("of another line, too", desk.close(1), true);
        check.due("closed", desk.made(1, 2), 0);
        check.nothing("a closed one", Desks::branched, some -> Check.bit(some.close(2)), 0);
        for (int none : new int[] {-1, -2, 3, 10, 32, 33, GREATEST, LEAST}) {
            check.nothing("copy " + none, Desks::branched, some -> Check.bit(some.close(none)), 0);
        }
        check.nothing("a dropped one", () -> {
            RestoreDesk some = Desks.branched();
            some.drop(2);
            return some;
        }, some -> Check.bit(some.close(2)), 0);
    }

    private static void combine() {
        check.words("`int combine(int copy)`: COMBINED: the new one's number; NONE, and nothing happens: not FIT, 10 are there, no such one.");
        check.due("combine", Desks.branched().combine(0), 3);
        check.nothing("an open one", Desks::branched, desk -> desk.combine(1), -1);
        check.nothing("one that lacks pages", Desks::branched, desk -> desk.combine(2), -1);
        for (int none : new int[] {-1, -2, 3, 10, GREATEST, LEAST}) {
            check.nothing("copy " + none, Desks::branched, desk -> desk.combine(none), -1);
        }
        check.nothing("an 11th", Desks::ten, desk -> desk.combine(0), -1);
        check.nothing("a dropped one", () -> {
            RestoreDesk desk = Desks.branched();
            desk.drop(0);
            return desk;
        }, desk -> desk.combine(0), -1);
    }

    private static void drop() {
        check.words("`boolean drop(int copy)`: DROPPED: true; false, and nothing happens: OPEN, it is, one is UPON it, no such one.");
        check.due("drop", Desks.branched().drop(0), true);
        check.due("drop of one that lacks pages", Desks.branched().drop(2), true);
        check.nothing("an open one", Desks::branched, desk -> Check.bit(desk.drop(1)), 0);
        check.nothing("a dropped one", () -> {
            RestoreDesk desk = Desks.branched();
            desk.drop(0);
            return desk;
        }, desk -> Check.bit(desk.drop(0)), 0);
        check.nothing("one is upon it", Desks::ten, desk -> Check.bit(desk.drop(0)), 0);
        for (int none : new int[] {-1, -2, 3, 10, 32, 34, GREATEST, LEAST}) {
            check.nothing("copy " + none, Desks::branched, desk -> Check.bit(desk.drop(none)), 0);
        }
    }

    private static Supplier<RestoreDesk> plainWith(boolean lost, boolean unlike) {
        return () -> {
            RestoreDesk desk = Desks.plain();
            desk.hold(0);
            if (lost) {
                desk.lose(0, 0);
            }
            if (unlike) {
                desk.twice(0, 1, false);
            }
            return desk;
        };
    }

    private static void restore() {
        check.words("`int restore(int copy, int line, int place)`: RESTORE: how it comes out"
            + " (1, and nothing happens, if there are 8 LINES, too; nothing happens if it is not 0).");
        check.due("done", Desks.plain().restore(0, 0, 5), 0);
        check.nothing("no such copy", Desks::plain, desk -> desk.restore(2, 0, 5), 1);
        check.nothing("no such line", Desks::plain, desk -> desk.restore(0, 1, 0), 1);
        check.nothing("no such place", Desks::plain, desk -> desk.restore(0, 0, 6), 1);
        check.nothing("place -1", Desks::plain, desk -> desk.restore(0, 0, -1), 1);
        check.nothing("not fit", Desks::branched, desk -> desk.restore(1, 2, 3), 1);
        check.nothing("branch", () -> {
            RestoreDesk desk = Desks.plain();
            desk.restore(0, 0, 2);
            return desk;
        }, desk -> desk.restore(1, 1, 2), 2);
        check.nothing("early", Desks::plain, desk -> desk.restore(1, 0, 3), 3);
        check.nothing("lacks", plainWith(true, true), desk -> desk.restore(0, 0, 5), 4);
        check.nothing("unlike", plainWith(false, true), desk -> desk.restore(0, 0, 5), 5);
        check.nothing("with 8 lines", Desks::eight, desk -> desk.restore(0, 0, 0), 1);
        check.nothing("with 8 lines, of the line that goes on", Desks::eight, desk -> desk.restore(0, 7, 0), 1);
        check.nothing("with 8 lines, no such copy", Desks::eight, desk -> desk.restore(5, 0, 0), 1);
        Supplier<RestoreDesk> lateCopy = Desks.text("pages 1;" + ONE + " mark 1; copy; take 1 0; close 1; do 7; restore 0 i 0; end;");
        check.due("early it would be", lateCopy.get().would(1, 0, 0), 3);
        check.nothing("with 8 lines, early", lateCopy, desk -> desk.restore(1, 0, 0), 1);
        check.due("of a branch it would be", lateCopy.get().would(1, 7, 0), 2);
        check.nothing("with 8 lines, of a branch", lateCopy, desk -> desk.restore(1, 7, 0), 1);
        check.due("with 7 lines", Check.deskOf("pages 1;" + ONE + " do 6; restore 0 i 0; end;").restore(0, 6, 0), 0);
    }

    private static void lose() {
        check.words("`boolean lose(int line, int piece)`: A KEPT piece is LOST: true; false, and nothing happens: it is not KEPT, no such one.");
        check.due("kept", Desks.branched().lose(0, 1), true);
        check.due("of a line that goes on no more", Desks.branched().lose(1, 1), true);
        check.nothing("not full", Desks::branched, desk -> Check.bit(desk.lose(2, 1)), 0);
        check.nothing("not full, of a line that goes on no more", Desks::branched, desk -> Check.bit(desk.lose(0, 2)), 0);
        check.nothing("the parent's", Desks::branched, desk -> Check.bit(desk.lose(1, 0)), 0);
        check.nothing("lost", () -> {
            RestoreDesk desk = Desks.branched();
            desk.lose(0, 0);
            return desk;
        }, desk -> Check.bit(desk.lose(0, 0)), 0);
        for (int none : new int[] {-1, 3, 120, 121, 1 << 30, GREATEST, LEAST}) {
            check.nothing("piece " + none, Desks::branched, desk -> Check.bit(desk.lose(0, none)), 0);
            check.nothing("line " + none, Desks::branched, desk -> Check.bit(desk.lose(none, 0)), 0);
        }
    }

    private static void twice() {
        check.words("`boolean twice(int line, int piece, boolean alike)`: A KEPT piece is DOUBLED, alike or unlike: true;"
            + " false, and nothing happens: it is so already, it is not KEPT, no such one.");
        for (boolean alike : new boolean[] {true, false}) {
            RestoreDesk desk = Desks.branched();
            check.due("kept", desk.twice(0, 1, alike), true);
            check.due("is", desk.piece(0, 1), alike ? 2 : 3);
            check.due("the other way", desk.twice(0, 1, !alike), true);
            check.due("is", desk.piece(0, 1), alike ? 3 : 2);
            check.nothing("so already", () -> {
                RestoreDesk some = Desks.branched();
                some.twice(0, 0, alike);
                return some;
            }, some -> Check.bit(some.twice(0, 0, alike)), 0);
            check.nothing("not full", Desks::branched, some -> Check.bit(some.twice(2, 1, alike)), 0);
            check.nothing("the parent's", Desks::branched, some -> Check.bit(some.twice(1, 0, alike)), 0);
            check.nothing("lost", () -> {
                RestoreDesk some = Desks.branched();
                some.lose(0, 0);
                return some;
            }, some -> Check.bit(some.twice(0, 0, alike)), 0);
            for (int none : new int[] {-1, 3, 120, GREATEST, LEAST}) {
                check.nothing("piece " + none, Desks::branched, some -> Check.bit(some.twice(0, none, alike)), 0);
                check.nothing("line " + none, Desks::branched, some -> Check.bit(some.twice(none, 0, alike)), 0);
            }
        }
    }
}
