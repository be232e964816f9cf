/** Promises 1, 6 to 9, 16 to 22, 33 to 35 and 44 to 47: lines, records and pieces. */
public final class JournalTest {
    private static final Check check = new Check("JournalTest");
    private static final int NO_RECORD = -1000000000;

    public static void main(String[] args) {
        newObject();
        writesAndAdds();
        marks();
        fills();
        limits();
        pagesOfMoments();
        records();
        lines();
        pieces();
        losing();
        doubling();
        gaps();
        common();
        stops();
        lasts();
        wheres();
        busiest();
        check.end();
    }

    private static void newObject() {
        RestoreDesk desk = new RestoreDesk();
        int[] counts = {4, 4, 1, 0, 0, 0, 0, 0, 0, 0, 0, 0, 0, 0, 0, 0};
        for (int what = 0; what < counts.length; what++) {
            check.due("count " + what + " of a new object", desk.count(what), counts[what]);
        }
        for (int page = 0; page < 4; page++) {
            check.due("page of a new object", desk.page(page, 0, 0), 0);
        }
        check.due("NONE", RestoreDesk.NONE, -1);
    }

    private static void writesAndAdds() {
        RestoreDesk desk = new RestoreDesk();
        check.due("write", desk.write(0, 5), 1);
        check.due("write", desk.write(3, -7), 2);
        check.due("write of page 4", desk.write(4, 1), -1);
        check.due("write of page -1", desk.write(-1, 1), -1);
        check.due("add", desk.add(3, 2), 3);
        check.due("add to page 4", desk.add(4, 1), -1);
        check.due("add to page -1", desk.add(-1, 1), -1);
        check.due("nothing happened", desk.count(5), 3);
        check.due("written", desk.page(0, 0, 3), 5);
        check.due("written and added", desk.page(3, 0, 3), -5);
        desk.write(1, Integer.MAX_VALUE);
        desk.add(1, 1);
        check.due("wraps", desk.page(1, 0, 5), Integer.MIN_VALUE);
        desk.add(1, -1);
        check.due("wraps back", desk.page(1, 0, 6), Integer.MAX_VALUE);
        desk.write(1, 0);
        check.due("written anew", desk.page(1, 0, 7), 0);
    }

    private static void marks() {
        RestoreDesk desk = new RestoreDesk();
        check.due("mark", desk.mark(7), 1);
        check.due("mark of any number", desk.mark(Integer.MIN_VALUE), 2);
        check.due("its number", desk.record(0, 2, 1), Integer.MIN_VALUE);
        check.due("marks", desk.count(14), 2);
        check.due("a mark is no page", desk.page(0, 0, 2), 0);
    }

    private static void fills() {
        RestoreDesk desk = Check.deskOf("piece 5;");
        check.due("fill at 0", desk.fill(), 0);
        desk.mark(1);
        check.due("fill at 1", desk.fill(), 4);
        check.due("fill at 5", desk.fill(), 0);
        check.due("place", desk.count(4), 5);
        check.due("records made", desk.count(5), 5);
        check.due("an empty one", desk.record(0, 3, 0), 3);
        check.due("its subject", desk.record(0, 3, 1), -2);
        check.due("its value", desk.value(0, 3), 0);
        check.due("kept", desk.piece(0, 0), 1);
        for (int n = 0; n < 4; n++) {
            desk.mark(1);
        }
        check.due("fill at 9", desk.fill(), 1);
        RestoreDesk forked = Check.deskOf("pages 1; piece 4; copy; take 0 0; close 0; mark 1; mark 1; mark 1; mark 1; restore 0 0 3;");
        check.due("not kept by the parent's alone", forked.piece(1, 0), 0);
        check.due("fill behind a fork", forked.fill(), 1);
        check.due("kept", forked.piece(1, 0), 1);
    }

    private static void limits() {
        RestoreDesk desk = Check.deskOf("pages 1; piece 7; copy; take 0 0; close 0; do 34; mark 1; fill; end; mark 2;");
        check.due("place", desk.count(4), 239);
        check.due("a fill that would go beyond 240", desk.fill(), -1);
        check.due("nothing came", desk.count(4), 239);
        check.due("the 240th", desk.write(0, 1), 240);
        check.due("the 241st write", desk.write(0, 1), -1);
        check.due("the 241st add", desk.add(0, 1), -1);
        check.due("the 241st mark", desk.mark(1), -1);
        check.due("the 241st fill", desk.fill(), -1);
        check.due("records", desk.count(5), 240);
        check.due("restore", desk.restore(0, 0, 0), 0);
        for (int n = 1; n <= 240; n++) {
            check.due("mark", desk.mark(3), n);
        }
        check.due("a 241st of another line", desk.mark(3), -1);
        check.due("restore", desk.restore(0, 1, 0), 0);
        for (int n = 1; n <= 117; n++) {
            check.due("mark", desk.mark(3), n);
        }
        check.due("fill to 119", desk.fill(), 2);
        check.due("records", desk.count(5), 599);
        check.due("the 600th", desk.mark(4), 120);
        check.due("the 601st write", desk.write(0, 1), -1);
        check.due("the 601st mark", desk.mark(4), -1);
        check.due("the 601st fill", desk.fill(), -1);
        check.due("records", desk.count(5), 600);
        check.due("all marks", desk.count(14), 34 + 1 + 240 + 117 + 1);
        RestoreDesk eight = Check.deskOf("pages 1; piece 8; do 30; mark 1; fill; end;");
        check.due("fill at 240 that is full", eight.fill(), 0);
        RestoreDesk two = Check.deskOf("pages 1; piece 2; do 99; mark 1; fill; end; do 51; mark 2; end;");
        check.due("place", two.count(4), 240);
        check.due("the last piece of all", two.piece(0, 119), 1);
        check.due("none behind it", two.piece(0, 120), -1);
        check.due("kept ones", two.count(9), 120);
        check.due("a far parent's place counts", farFork().mark(1), -1);
    }

    /** A line that forks at 240 takes no record at all. */
    private static RestoreDesk farFork() {
        RestoreDesk desk = Check.deskOf("pages 1; piece 8; copy; take 0 0; close 0; do 30; mark 1; fill; end; restore 0 0 240;");
        check.due("a line that forks at 240", desk.line(1, 2), 240);
        return desk;
    }

    private static RestoreDesk branched() {
        // line 0: w0=5 a0+3 w1=7 m9 a1+1 (5); line 1 of place 3: a0+10 m9 (5); line 2 of line 1, place 2: w1=1 (3)
        return Check.deskOf("pages 2; piece 2; copy; take 0 0; take 0 1; close 0; write 0 5; add 0 3; write 1 7; mark 9;"
            + " add 1 1; restore 0 0 3; add 0 10; mark 9; restore 0 1 2; write 1 1;");
    }

    private static void pagesOfMoments() {
        RestoreDesk desk = branched();
        int[][] zero = {{0, 5, 8, 8, 8, 8}, {0, 5, 8, 8, 18, 18}, {0, 5, 8, 8}};
        int[][] one = {{0, 0, 0, 7, 7, 8}, {0, 0, 0, 7, 7, 7}, {0, 0, 0, 1}};
        for (int line = 0; line < 3; line++) {
            for (int place = 0; place < zero[line].length; place++) {
                check.due("page 0 of " + line + " at " + place, desk.page(0, line, place), zero[line][place]);
                check.due("page 1 of " + line + " at " + place, desk.page(1, line, place), one[line][place]);
            }
        }
        check.due("page 2", desk.page(2, 0, 1), 0);
        check.due("page -1", desk.page(-1, 0, 1), 0);
        check.due("a place too many", desk.page(0, 2, 4), 0);
        check.due("a place below 0", desk.page(0, 0, -1), 0);
        check.due("a line too many", desk.page(0, 3, 1), 0);
        check.due("a line below 0", desk.page(0, -1, 1), 0);
    }

    private static void records() {
        RestoreDesk desk = branched();
        int[][] sorts = {{0, 1, 0, 2, 1}, {0, 1, 0, 1, 2}, {0, 1, 0}};
        int[][] subjects = {{0, 0, 1, 9, 1}, {0, 0, 1, 0, 9}, {0, 0, 1}};
        int[][] owners = {{0, 0, 0, 0, 0}, {0, 0, 0, 1, 1}, {0, 0, 2}};
        int[][] values = {{5, 3, 7, 0, 1}, {5, 3, 7, 10, 0}, {5, 3, 1}};
        for (int line = 0; line < 3; line++) {
            for (int place = 1; place <= sorts[line].length; place++) {
                check.due("sort", desk.record(line, place, 0), sorts[line][place - 1]);
                check.due("subject", desk.record(line, place, 1), subjects[line][place - 1]);
                check.due("owner", desk.record(line, place, 2), owners[line][place - 1]);
                check.due("value", desk.value(line, place), values[line][place - 1]);
            }
        }
        check.due("what 3", desk.record(0, 1, 3), NO_RECORD);
        check.due("what -1", desk.record(0, 1, -1), NO_RECORD);
        check.due("place 0", desk.record(0, 0, 0), NO_RECORD);
        check.due("place 4 of line 2", desk.record(2, 4, 0), NO_RECORD);
        check.due("line 3", desk.record(3, 1, 0), NO_RECORD);
        check.due("line -1", desk.record(-1, 1, 0), NO_RECORD);
        check.due("value of line 3", desk.value(3, 1), 0);
        check.due("value at 0", desk.value(0, 0), 0);
        check.due("value behind the tip", desk.value(2, 4), 0);
    }

    private static void lines() {
        RestoreDesk desk = branched();
        int[][] due = {{5, -2, -2, 1, 0}, {5, 0, 3, 2, 1}, {3, 1, 2, 3, 1}};
        for (int line = 0; line < 3; line++) {
            for (int what = 0; what < 5; what++) {
                check.due("line " + line + " what " + what, desk.line(line, what), due[line][what]);
            }
        }
        check.due("what 5", desk.line(0, 5), -1);
        check.due("what -1", desk.line(0, -1), -1);
        check.due("line 3", desk.line(3, 0), -1);
        check.due("line -1", desk.line(-1, 0), -1);
        int[][] ways = {{0}, {1, 0}, {2, 1, 0}};
        for (int line = 0; line < 3; line++) {
            for (int i = 0; i < ways[line].length; i++) {
                check.due("way", desk.way(line, i), ways[line][i]);
            }
            check.due("behind the way", desk.way(line, ways[line].length), -1);
            check.due("ahead of the way", desk.way(line, -1), -1);
        }
        check.due("way of no line", desk.way(3, 0), -1);
        check.due("lines", desk.count(2), 3);
        check.due("the line that goes on", desk.count(3), 2);
        check.due("its place", desk.count(4), 3);
        check.due("records made", desk.count(5), 8);
        check.due("parents", desk.count(15), 3);
    }

    private static void pieces() {
        RestoreDesk desk = branched();
        int[][] due = {{1, 1, 0, -1}, {-1, 1, 0, -1}, {-1, 0, -1, -1}};
        for (int line = 0; line < 3; line++) {
            for (int piece = 0; piece < 4; piece++) {
                check.due("piece " + piece + " of " + line, desk.piece(line, piece), due[line][piece]);
            }
        }
        check.due("piece -1", desk.piece(0, -1), -1);
        check.due("a far piece", desk.piece(0, Integer.MAX_VALUE), -1);
        check.due("piece of line 3", desk.piece(3, 0), -1);
        check.due("kept ones", desk.count(9), 3);
        // at a fork that is a piece's last place a line has none till a record comes
        RestoreDesk even = Check.deskOf("pages 1; piece 2; copy; take 0 0; close 0; mark 1; mark 1; restore 0 0 2;");
        check.due("first number", even.line(1, 4), 1);
        check.due("piece 0", even.piece(1, 0), -1);
        check.due("piece 1", even.piece(1, 1), -1);
        even.mark(1);
        check.due("piece 1 begun", even.piece(1, 1), 0);
        even.mark(1);
        check.due("piece 1 kept", even.piece(1, 1), 1);
        RestoreDesk zero = Check.deskOf("pages 1; piece 2; copy; take 0 0; close 0; restore 0 0 0;");
        check.due("a line at place 0 has none", zero.piece(1, 0), -1);
        zero.mark(1);
        check.due("it has one then", zero.piece(1, 0), 0);
        RestoreDesk half = Check.deskOf("pages 1; piece 4; copy; take 0 0; close 0; mark 1; mark 1; restore 0 0 2;");
        check.due("a piece by the parent's records alone", half.piece(1, 0), 0);
    }

    private static void losing() {
        RestoreDesk desk = branched();
        check.due("lose of one that is not kept", desk.lose(0, 2), false);
        check.due("lose of none", desk.lose(0, 3), false);
        check.due("lose of piece -1", desk.lose(0, -1), false);
        check.due("lose of line 3", desk.lose(3, 0), false);
        check.due("lose of the parent's", desk.lose(1, 0), false);
        check.due("lose", desk.lose(0, 1), true);
        check.due("lose again", desk.lose(0, 1), false);
        check.due("lost", desk.piece(0, 1), 0);
        check.due("line 1 has its own", desk.piece(1, 1), 1);
        check.due("kept ones", desk.count(9), 2);
        check.due("the records are there", desk.page(1, 0, 3), 7);
        check.due("a lost one is not doubled", desk.twice(0, 1, true), false);
        desk.twice(0, 0, false);
        check.due("a doubled one is lost", desk.lose(0, 0), true);
        check.due("wholly", desk.piece(0, 0), 0);
    }

    private static void doubling() {
        RestoreDesk desk = branched();
        check.due("twice of one that is not kept", desk.twice(0, 2, true), false);
        check.due("twice of none", desk.twice(0, 3, false), false);
        check.due("twice of line -1", desk.twice(-1, 0, false), false);
        check.due("twice alike", desk.twice(0, 0, true), true);
        check.due("twice alike already", desk.twice(0, 0, true), false);
        check.due("alike", desk.piece(0, 0), 2);
        check.due("twice unlike", desk.twice(0, 0, false), true);
        check.due("twice unlike already", desk.twice(0, 0, false), false);
        check.due("unlike", desk.piece(0, 0), 3);
        check.due("alike again", desk.twice(0, 0, true), true);
        check.due("kept ones", desk.count(9), 3);
    }

    private static void gaps() {
        RestoreDesk desk = branched();
        // line 0: its piece 2 is not full and it does not go on; line 2 goes on
        check.due("gaps of line 0", desk.gaps(0, 0), 1);
        check.due("the first", desk.gaps(0, 1), 2);
        check.due("gaps of line 1", desk.gaps(1, 0), 1);
        check.due("gaps of line 2", desk.gaps(2, 0), 0);
        check.due("none", desk.gaps(2, 1), -2);
        desk.lose(0, 0);
        check.due("gaps of line 2 by line 0", desk.gaps(2, 0), 1);
        check.due("the first", desk.gaps(2, 1), 0);
        check.due("gaps of line 1", desk.gaps(1, 0), 2);
        check.due("the first of line 1", desk.gaps(1, 1), 0);
        desk.twice(0, 1, false);
        check.due("unlike ones are at hand", desk.gaps(0, 0), 2);
        check.due("what 2", desk.gaps(0, 2), -1);
        check.due("what -1", desk.gaps(0, -1), -1);
        check.due("line 3", desk.gaps(3, 0), -1);
    }

    private static void common() {
        RestoreDesk desk = branched();
        int[][] due = {{5, 3, 2}, {3, 5, 2}, {2, 2, 3}};
        for (int line = 0; line < 3; line++) {
            for (int other = 0; other < 3; other++) {
                check.due("common of " + line + " and " + other, desk.common(line, other), due[line][other]);
            }
        }
        check.due("common with line 3", desk.common(0, 3), -1);
        check.due("common with line -1", desk.common(-1, 0), -1);
        // records that are alike, but not the very same
        RestoreDesk alike = Check.deskOf("pages 1; copy; take 0 0; close 0; mark 1; mark 1; restore 0 0 1; mark 1;");
        check.due("alike is not the same", alike.common(0, 1), 1);
        // up to its parent's fork a line has the records of its parent's parent
        RestoreDesk deep = Check.deskOf("pages 1; copy; take 0 0; close 0; do 5; mark 1; end; restore 0 0 4; mark 2; restore 0 1 3; mark 3; restore 0 1 5;");
        check.due("of 2 and 0", deep.common(2, 0), 3);
        check.due("of 3 and 2", deep.common(3, 2), 3);
        check.due("of 3 and 1", deep.common(1, 3), 5);
        check.due("of 3 and 0", deep.common(3, 0), 4);
    }

    private static void stops() {
        RestoreDesk desk = branched();
        check.due("after, of line 0", desk.stop(0, 9, true), 4);
        check.due("before, of line 0", desk.stop(0, 9, false), 3);
        check.due("after, of line 1", desk.stop(1, 9, true), 5);
        check.due("before, of line 1", desk.stop(1, 9, false), 4);
        check.due("of line 2", desk.stop(2, 9, true), -2);
        check.due("of another number", desk.stop(0, 8, true), -2);
        check.due("of a page's number", desk.stop(0, 1, true), -2);
        check.due("of line 3", desk.stop(3, 9, true), -1);
        check.due("of line -1", desk.stop(-1, 9, false), -1);
        RestoreDesk more = Check.deskOf("pages 1; copy; take 0 0; close 0; mark 4; mark 5; mark 4; mark 6; restore 0 0 2; mark 7;");
        check.due("the last one", more.stop(0, 4, true), 3);
        check.due("the last one by the way", more.stop(1, 4, true), 1);
        check.due("before the first place", more.stop(1, 4, false), 0);
        RestoreDesk empties = Check.deskOf("mark 1; fill;");
        check.due("an empty one is no mark", empties.stop(0, -2, true), -2);
    }

    private static void lasts() {
        RestoreDesk desk = branched();
        check.due("last", desk.last(0, 0, 5), 2);
        check.due("last", desk.last(1, 0, 5), 5);
        check.due("last", desk.last(1, 0, 4), 3);
        check.due("never", desk.last(1, 0, 2), 0);
        check.due("never at 0", desk.last(0, 0, 0), 0);
        check.due("of line 1", desk.last(0, 1, 5), 4);
        check.due("of line 2", desk.last(0, 2, 3), 2);
        check.due("page 2", desk.last(2, 0, 0), -1);
        check.due("page -1", desk.last(-1, 0, 0), -1);
        check.due("behind the tip", desk.last(0, 2, 4), -1);
        check.due("below 0", desk.last(0, 0, -1), -1);
        check.due("line 3", desk.last(0, 3, 0), -1);
        RestoreDesk marks = Check.deskOf("write 1 1; mark 0; mark 1;");
        check.due("a mark is no change", marks.last(0, 0, 3), 0);
        check.due("a mark is no change", marks.last(1, 0, 3), 1);
    }

    private static void wheres() {
        RestoreDesk desk = branched();
        check.due("how many", desk.where(9, 0), 2);
        check.due("line", desk.where(9, 1), 0);
        check.due("place", desk.where(9, 2), 4);
        check.due("none", desk.where(8, 0), 0);
        check.due("no line", desk.where(8, 1), -2);
        check.due("no place", desk.where(8, 2), -2);
        check.due("what 3", desk.where(9, 3), -1);
        check.due("what -1", desk.where(9, -1), -1);
        check.due("a page's number", desk.where(1, 0), 0);
        RestoreDesk late = Check.deskOf("pages 1; copy; take 0 0; close 0; mark 1; mark 2; restore 0 0 1; mark 3; mark 3; restore 0 1 2; mark 3;");
        check.due("inherited ones are counted once", late.where(1, 0), 1);
        check.due("how many", late.where(3, 0), 3);
        check.due("line", late.where(3, 1), 1);
        check.due("place", late.where(3, 2), 2);
    }

    private static void busiest() {
        RestoreDesk desk = branched();
        check.due("of line 0, alike: the first", desk.busiest(0, 0), 0);
        check.due("how many", desk.busiest(0, 1), 2);
        check.due("of line 1", desk.busiest(1, 0), 0);
        check.due("how many", desk.busiest(1, 1), 3);
        desk.add(1, 0);
        desk.write(1, 1);
        check.due("of line 2", desk.busiest(2, 0), 1);
        check.due("how many", desk.busiest(2, 1), 3);
        check.due("what 2", desk.busiest(0, 2), -1);
        check.due("what -1", desk.busiest(0, -1), -1);
        check.due("line 3", desk.busiest(3, 0), -1);
        RestoreDesk marks = Check.deskOf("mark 3; mark 3; fill;");
        check.due("marks change nothing", marks.busiest(0, 1), 0);
        check.due("the first of none", marks.busiest(0, 0), 0);
    }
}
