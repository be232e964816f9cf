/** Promises 15, 27 to 31, 36 to 40, 42 and 43: restores, and what would be. */
public final class RestoreTest {
    private static final Check check = new Check("RestoreTest");

    public static void main(String[] args) {
        outcomeNone();
        outcomeBranch();
        outcomeEarly();
        outcomeLacks();
        outcomeUnlike();
        outcomeDone();
        eightLines();
        names();
        needs();
        keepers();
        best();
        pinned();
        windows();
        reach();
        spare();
        hurts();
        newest();
        work();
        differ();
        check.end();
    }

    private static void dueName(RestoreDesk desk, int copy, int line, int place, String name) {
        check.dueName("named " + copy + " " + line + " " + place, Check.named(desk, copy, line, place), name);
    }

    /** Pages 2, pieces of 2. Copy 0 of place 0; w0=1 a1+2 | w1=3 (copy 1: page 0 at 3) m5 (page 1 at 4) | a0+4. */
    private static RestoreDesk plain() {
        return Check.deskOf("pages 2; piece 2; copy; take 0 0; take 0 1; close 0; write 0 1; add 1 2; write 1 3;"
            + " copy; take 1 0; mark 5; take 1 1; close 1; add 0 4;");
    }

    private static void outcomeNone() {
        RestoreDesk desk = plain();
        check.due("copy 2", desk.would(2, 0, 5), 1);
        check.due("copy -1", desk.would(-1, 0, 5), 1);
        check.due("line 1", desk.would(0, 1, 0), 1);
        check.due("line -1", desk.would(0, -1, 0), 1);
        check.due("place 6", desk.would(0, 0, 6), 1);
        check.due("place -1", desk.would(0, 0, -1), 1);
        desk.copy(0);
        check.due("an open one", desk.would(2, 0, 5), 1);
        check.due("restore of an open one", desk.restore(2, 0, 5), 1);
        desk.close(2);
        check.due("closed", desk.would(2, 0, 5), 0);
        desk.drop(2);
        check.due("dropped", desk.would(2, 0, 5), 1);
        desk.copy(2);
        desk.close(3);
        check.due("upon a dropped one", desk.would(3, 0, 5), 1);
        desk.copy(-1);
        desk.take(4, 0);
        desk.close(4);
        check.due("a page lacks", desk.would(4, 0, 5), 1);
        check.due("restore of it", desk.restore(4, 0, 5), 1);
        check.due("nothing happened", desk.count(2), 1);
    }

    private static void outcomeBranch() {
        // line 1 forks at 2; copy 2 is of line 1 at 3
        RestoreDesk desk = plain();
        check.due("restore", desk.restore(0, 0, 2), 0);
        desk.write(0, 9);
        desk.copy(-1);
        desk.take(2, 0);
        desk.take(2, 1);
        desk.close(2);
        check.due("of a line not on the way", desk.would(2, 0, 4), 2);
        check.due("at a place behind the fork", desk.would(1, 1, 3), 2);
        check.due("branch goes ahead of early", desk.would(1, 1, 2), 2);
        check.due("of the line itself", desk.would(2, 1, 3), 0);
        check.due("of its parent, ahead of the fork", desk.would(0, 1, 3), 0);
        check.due("restore of another branch", desk.restore(2, 0, 4), 2);
        check.due("nothing happened", desk.count(2), 2);
        // line 2 of line 1 at 1: what was taken of line 0 at 2 lies behind the fork of line 2
        RestoreDesk deep = Check.deskOf("pages 1; piece 2; mark 1; mark 1; copy; take 0 0; close 0; copy; take 1 0; close 1; mark 1; restore 0 0 2; mark 2;");
        check.due("at the fork", deep.would(1, 1, 3), 0);
        deep = Check.deskOf("pages 1; piece 2; copy; take 0 0; close 0; mark 1; mark 1; mark 1; copy; take 1 0; close 1; mark 1; restore 0 0 4;"
            + " mark 1; restore 0 1 2; mark 1; mark 1; mark 1;");
        check.due("behind a fork on the way", deep.would(1, 2, 5), 2);
        check.due("ahead of the fork of line 1", deep.would(1, 1, 5), 0);
        check.due("copy 0", deep.would(0, 2, 5), 0);
        // the page of a copy upon another one may be of an earlier line
        RestoreDesk upon = Check.deskOf("pages 2; piece 2; copy; take 0 0; take 0 1; close 0; restore 0 0 0; write 0 1; upon 0; take 1 0; close 1;");
        check.due("of two lines, on the way", upon.would(1, 1, 1), 0);
        check.due("of two lines, one not on the way", upon.would(1, 0, 0), 2);
    }

    private static void outcomeEarly() {
        RestoreDesk desk = plain();
        check.due("at 3", desk.would(1, 0, 3), 3);
        check.due("at 4", desk.would(1, 0, 4), 0);
        check.due("at 0", desk.would(1, 0, 0), 3);
        check.due("restore", desk.restore(1, 0, 3), 3);
        check.due("nothing happened", desk.count(2), 1);
        desk.lose(0, 0);
        desk.lose(0, 1);
        check.due("early goes ahead of lacks", desk.would(1, 0, 3), 3);
    }

    private static void outcomeLacks() {
        RestoreDesk desk = plain();
        desk.lose(0, 1);
        check.due("ahead of the lost one", desk.would(0, 0, 2), 0);
        check.due("nothing is needed", desk.would(0, 0, 0), 0);
        check.due("in the lost one", desk.would(0, 0, 3), 4);
        check.due("behind the lost one", desk.would(0, 0, 5), 4);
        check.due("a copy that does not need it", desk.would(1, 0, 5), 0);
        check.due("restore", desk.restore(0, 0, 5), 4);
        check.due("nothing happened", desk.count(2), 1);
        check.due("the piece that fills up is at hand", desk.would(1, 0, 5), 0);
        check.due("restore", desk.restore(1, 0, 4), 0);
        check.due("it does not fill up any more", desk.would(1, 0, 5), 4);
        dueName(desk, 1, 0, 5, "t0p2");
        // a full one of the line that goes on, if lost, is not at hand
        RestoreDesk full = Check.deskOf("pages 1; piece 2; copy; take 0 0; close 0; write 0 1; write 0 2; lose 0 0;");
        check.due("full and lost", full.would(0, 0, 2), 4);
        // needed records begin in the middle of a piece
        RestoreDesk half = Check.deskOf("pages 1; piece 4; copy; take 0 0; close 0; mark 1; mark 2; write 0 1; mark 3; lose 0 0;");
        check.due("ahead of the first change", half.would(0, 0, 2), 0);
        check.due("at the first change", half.would(0, 0, 3), 4);
        check.due("window", half.window(0, 0, 2), 2);
    }

    private static void outcomeUnlike() {
        RestoreDesk desk = plain();
        desk.twice(0, 1, true);
        check.due("alike", desk.would(0, 0, 5), 0);
        desk.twice(0, 1, false);
        check.due("unlike", desk.would(0, 0, 5), 5);
        check.due("ahead of it", desk.would(0, 0, 2), 0);
        check.due("restore", desk.restore(0, 0, 5), 5);
        check.due("nothing happened", desk.count(2), 1);
        desk.lose(0, 0);
        check.due("the first one decides", desk.would(0, 0, 5), 4);
        dueName(desk, 0, 0, 5, "t0p0");
        RestoreDesk other = plain();
        other.twice(0, 0, false);
        other.lose(0, 1);
        check.due("the first one decides", other.would(0, 0, 5), 5);
        dueName(other, 0, 0, 5, "t0p0");
        dueName(other, 0, 0, 1, "t0p0");
        other.lose(0, 0);
        check.due("lost wholly", other.would(0, 0, 5), 4);
    }

    private static void outcomeDone() {
        RestoreDesk desk = plain();
        check.due("restore", desk.restore(1, 0, 4), 0);
        check.due("lines", desk.count(2), 2);
        check.due("goes on", desk.count(3), 1);
        check.due("place", desk.count(4), 4);
        check.due("parent", desk.line(1, 1), 0);
        check.due("fork", desk.line(1, 2), 4);
        check.due("page 0", desk.page(0, 1, 4), 1);
        check.due("page 1", desk.page(1, 1, 4), 3);
        check.due("no records are made", desk.count(5), 5);
        check.due("add", desk.add(0, 1), 5);
        check.due("page 0 goes on", desk.page(0, 1, 5), 2);
        check.due("line 0 is as it was", desk.page(0, 0, 5), 5);
        check.due("line 0 has its place", desk.line(0, 0), 5);
        check.due("restore to a place ahead of the fork", desk.restore(0, 1, 1), 0);
        check.due("its parent", desk.line(2, 1), 1);
        check.due("its fork", desk.line(2, 2), 1);
        check.due("its page", desk.page(0, 2, 1), 1);
    }

    private static void eightLines() {
        RestoreDesk desk = plain();
        for (int line = 1; line < 8; line++) {
            check.due("restore " + line, desk.restore(0, line - 1, 0), 0);
        }
        check.due("lines", desk.count(2), 8);
        check.due("way", desk.line(7, 3), 8);
        check.due("a 9th", desk.restore(0, 0, 0), 1);
        check.due("would be done", desk.would(0, 0, 0), 0);
        check.due("of another branch, too", desk.restore(1, 7, 0), 1);
        check.due("would be of another branch", desk.would(1, 7, 0), 2);
        check.due("lines", desk.count(2), 8);
        check.due("parents", desk.count(15), 127);
    }

    private static void names() {
        RestoreDesk desk = plain();
        dueName(desk, 0, 0, 5, "ok");
        dueName(desk, 5, 0, 5, "none");
        dueName(desk, 1, 0, 3, "early");
        desk.restore(0, 0, 2);
        dueName(desk, 1, 1, 2, "branch");
        dueName(desk, 0, 0, 5, "t0p2");
        check.due("sign -1", desk.named(0, 0, 5, -1), -1);
        check.due("sign 0", desk.named(0, 0, 5, 0), 't');
        check.due("sign 3", desk.named(0, 0, 5, 3), '2');
        check.due("sign 4", desk.named(0, 0, 5, 4), -1);
        check.due("a far sign", desk.named(0, 0, 5, Integer.MAX_VALUE), -1);
        RestoreDesk far = Check.deskOf("pages 1; piece 2; copy; take 0 0; close 0; do 99; mark 1; fill; end; do 22; mark 1; end; write 0 1; mark 1;"
            + " lose 0 110;");
        dueName(far, 0, 0, 221, "t0p110");
        dueName(far, 0, 0, 220, "ok");
        far.restore(0, 0, 220);
        far.write(0, 5);
        far.write(0, 6);
        far.lose(1, 110);
        dueName(far, 0, 1, 222, "t1p110");
        dueName(far, 0, 1, 220, "ok");
    }

    private static void dueNeeds(RestoreDesk desk, int copy, int place, int... due) {
        for (int what = 0; what < 4; what++) {
            check.due("needs " + copy + " at " + place + " what " + what, desk.needs(copy, 0, place, what), due[what]);
        }
    }

    private static void needs() {
        RestoreDesk desk = plain();
        dueNeeds(desk, 0, 0, 0, -2, -2, -2);
        dueNeeds(desk, 0, 1, 1, 1, 0, 0);
        dueNeeds(desk, 0, 2, 2, 1, 0, 0);
        dueNeeds(desk, 0, 5, 5, 1, 0, 2);
        dueNeeds(desk, 1, 3, -1, -1, -1, -1);
        dueNeeds(desk, 1, 4, 0, -2, -2, -2);
        dueNeeds(desk, 1, 5, 1, 5, 2, 2);
        dueNeeds(desk, 2, 5, -1, -1, -1, -1);
        check.due("what 4", desk.needs(0, 0, 5, 4), -1);
        check.due("what -1", desk.needs(0, 0, 5, -1), -1);
        desk.lose(0, 0);
        dueNeeds(desk, 0, 5, 5, 1, 0, 2);
        desk.twice(0, 1, false);
        desk.copy(-1);
        desk.take(2, 1);
        desk.add(1, 1);
        desk.take(2, 0);
        desk.close(2);
        desk.mark(3);
        // page 1 was taken at 5 and is added to at 6, page 0 was taken at 6
        dueNeeds(desk, 2, 6, 1, 6, 2, 2);
        dueNeeds(desk, 2, 7, 2, 6, 2, 3);
        desk.restore(2, 0, 7);
        check.due("of a branch", desk.needs(2, 1, 7, 0), 2);
    }

    private static void keepers() {
        // pieces of 4; line 0 to 8; line 1 of place 6 to 12; line 2 of line 1, place 9, to 10
        RestoreDesk desk = Check.deskOf("pages 1; piece 4; copy; take 0 0; close 0; do 8; add 0 1; end; restore 0 0 6; do 6; add 0 1; end; restore 0 1 9; add 0 1;");
        check.due("line 1 has from", desk.line(1, 4), 1);
        check.due("line 2 has from", desk.line(2, 4), 2);
        check.due("all at hand", desk.would(0, 2, 10), 0);
        desk.lose(1, 2);
        check.due("line 1's piece 2 is not needed", desk.would(0, 2, 10), 0);
        desk.lose(0, 1);
        check.due("nor line 0's piece 1", desk.would(0, 2, 10), 0);
        desk.lose(1, 1);
        dueName(desk, 0, 2, 10, "t1p1");
        dueName(desk, 0, 1, 12, "t1p1");
        dueName(desk, 0, 0, 8, "t0p1");
        dueName(desk, 0, 0, 4, "ok");
        desk.lose(0, 0);
        dueName(desk, 0, 2, 10, "t0p0");
        check.due("gaps of line 2", desk.gaps(2, 0), 2);
        check.due("gaps of line 1", desk.gaps(1, 0), 3);
    }

    private static void best() {
        RestoreDesk desk = plain();
        check.due("at 5", desk.best(0, 5), 1);
        check.due("at 3", desk.best(0, 3), 0);
        check.due("at 6", desk.best(0, 6), -1);
        check.due("at -1", desk.best(0, -1), -1);
        check.due("of line 1", desk.best(1, 0), -1);
        desk.combine(1);
        check.due("of alike ones the latest", desk.best(0, 5), 2);
        desk.combine(0);
        check.due("the fewest", desk.best(0, 5), 2);
        check.due("at 3", desk.best(0, 3), 3);
        desk.lose(0, 0);
        check.due("none", desk.best(0, 3), -2);
        check.due("by one that needs nothing", desk.best(0, 0), 3);
        check.due("by one that needs nothing", desk.best(0, 4), 2);
    }

    private static void pinned() {
        RestoreDesk desk = plain();
        check.due("piece 0", desk.pinned(0, 0), 1);
        check.due("piece 1", desk.pinned(0, 1), 1);
        check.due("piece 2", desk.pinned(0, 2), 3);
        check.due("piece 3", desk.pinned(0, 3), -1);
        check.due("piece -1", desk.pinned(0, -1), -1);
        check.due("line 1", desk.pinned(1, 0), -1);
        desk.lose(0, 0);
        desk.twice(0, 1, false);
        check.due("lost ones are pinned, too", desk.pinned(0, 0), 1);
        check.due("unlike ones are pinned, too", desk.pinned(0, 1), 1);
        check.due("by any piece", desk.pinned(0, 2), 3);
        desk.drop(0);
        check.due("by fit ones alone", desk.pinned(0, 2), 2);
        RestoreDesk fork = plain();
        fork.restore(1, 0, 4);
        check.due("nothing is needed behind", fork.pinned(0, 2), 0);
        check.due("piece 1 by copy 0", fork.pinned(0, 1), 1);
        check.due("no such piece of line 1", fork.pinned(1, 2), -1);
        fork.write(1, 1);
        check.due("of line 1", fork.pinned(1, 2), 3);
        check.due("of line 0", fork.pinned(0, 2), 0);
    }

    private static void windows() {
        RestoreDesk desk = plain();
        int[][] due = {{6, 0, 5}, {2, 4, 5}};
        for (int copy = 0; copy < 2; copy++) {
            for (int what = 0; what < 3; what++) {
                check.due("window " + copy + " " + what, desk.window(copy, 0, what), due[copy][what]);
            }
        }
        check.due("what 3", desk.window(0, 0, 3), -1);
        check.due("what -1", desk.window(0, 0, -1), -1);
        check.due("copy 2", desk.window(2, 0, 0), -1);
        check.due("copy -1", desk.window(-1, 0, 0), -1);
        check.due("line 1", desk.window(0, 1, 0), -1);
        desk.lose(0, 1);
        check.due("how many", desk.window(0, 0, 0), 3);
        check.due("the last", desk.window(0, 0, 2), 2);
        desk.lose(0, 0);
        check.due("place 0 alone", desk.window(0, 0, 0), 1);
        check.due("the last", desk.window(0, 0, 2), 0);
        desk.copy(-1);
        check.due("one that is not fit", desk.window(2, 0, 0), 0);
        check.due("its first", desk.window(2, 0, 1), -2);
        check.due("its last", desk.window(2, 0, 2), -2);
        // page 0 taken at 1 and changed at 2, page 1 taken at 3: nothing is reached if piece 0 lacks
        RestoreDesk none = Check.deskOf("pages 2; piece 2; mark 1; copy; take 0 0; write 0 1; mark 1; take 0 1; close 0; mark 1; lose 0 0;");
        check.due("nothing is reached", none.window(0, 0, 0), 0);
        check.due("the first of none", none.window(0, 0, 1), -2);
        check.due("why", none.would(0, 0, 4), 4);
        check.due("reach", none.reach(0), 0);
        check.due("newest", none.newest(0), -2);
        // of a parent up to its fork, and of the line itself
        RestoreDesk fork = plain();
        fork.restore(0, 0, 2);
        fork.mark(1);
        check.due("copy 1 on line 1", fork.window(1, 1, 0), 0);
        check.due("copy 0 on line 1", fork.window(0, 1, 0), 4);
        check.due("copy 0 on line 0", fork.window(0, 0, 2), 4);
    }

    private static void reach() {
        RestoreDesk desk = plain();
        check.due("reach", desk.reach(0), 6);
        check.due("reach of line 1", desk.reach(1), -1);
        check.due("reach of line -1", desk.reach(-1), -1);
        desk.lose(0, 1);
        check.due("0 1 2 by copy 0, 4 5 by copy 1", desk.reach(0), 5);
        desk.lose(0, 0);
        check.due("0 by copy 0, 4 5 by copy 1", desk.reach(0), 3);
        desk.drop(0);
        check.due("4 5 by copy 1", desk.reach(0), 2);
        desk.restore(1, 0, 4);
        check.due("4 of line 0", desk.reach(0), 1);
        check.due("4 of line 1", desk.reach(1), 1);
        desk.write(0, 8);
        check.due("4 5 of line 1", desk.reach(1), 2);
        check.due("without copies", Check.deskOf("mark 1;").reach(0), 0);
    }

    private static void spare() {
        RestoreDesk desk = plain();
        check.due("all are pinned", desk.spare(), 0);
        desk.drop(0);
        check.due("0 and 1 are not", desk.spare(), 2);
        desk.lose(0, 0);
        check.due("a lost one is not kept", desk.spare(), 1);
        desk.mark(1);
        check.due("piece 2 is pinned", desk.spare(), 1);
        desk.drop(1);
        check.due("no copy is fit", desk.spare(), 2);
        RestoreDesk fork = plain();
        fork.mark(1);
        fork.restore(1, 0, 4);
        check.due("piece 2 of line 0 is of another branch", fork.spare(), 1);
        fork.write(0, 1);
        fork.write(0, 1);
        check.due("piece 2 of line 1 is pinned", fork.spare(), 1);
        check.due("kept ones", fork.count(9), 4);
    }

    private static void hurts() {
        RestoreDesk desk = plain();
        check.due("piece 0: 1 2 3 would go", desk.hurts(0, 0), 3);
        check.due("piece 1: 3 would go", desk.hurts(0, 1), 1);
        check.due("piece 2 is not kept", desk.hurts(0, 2), -1);
        check.due("piece 3", desk.hurts(0, 3), -1);
        check.due("line 1", desk.hurts(1, 0), -1);
        check.due("nothing happened", desk.piece(0, 0), 1);
        desk.twice(0, 0, true);
        check.due("a doubled one", desk.hurts(0, 0), 3);
        check.due("it is doubled still", desk.piece(0, 0), 2);
        desk.twice(0, 0, false);
        check.due("an unlike one", desk.hurts(0, 0), 0);
        check.due("it is unlike still", desk.piece(0, 0), 3);
        check.due("behind an unlike one", desk.hurts(0, 1), 0);
        desk.lose(0, 0);
        check.due("a lost one", desk.hurts(0, 0), -1);
        RestoreDesk fork = plain();
        fork.mark(1);
        fork.restore(1, 0, 4);
        check.due("a piece of another branch", fork.hurts(0, 2), 0);
        check.due("a piece of the way", fork.hurts(0, 0), 3);
    }

    private static void newest() {
        RestoreDesk desk = plain();
        check.due("newest", desk.newest(0), 5);
        check.due("newest of line 1", desk.newest(1), -1);
        check.due("newest of line -1", desk.newest(-1), -1);
        desk.restore(1, 0, 4);
        check.due("the piece does not fill up any more", desk.newest(0), 4);
        desk.drop(1);
        check.due("by copy 0", desk.newest(0), 4);
        desk.lose(0, 1);
        check.due("by copy 0", desk.newest(0), 2);
        check.due("of line 1", desk.newest(1), 2);
        desk.drop(0);
        check.due("none", desk.newest(0), -2);
    }

    private static void work() {
        RestoreDesk desk = plain();
        check.due("copy 0 at 0", desk.work(0, 0, 0), 0);
        check.due("copy 0 at 3", desk.work(0, 0, 3), 3);
        check.due("copy 0 at 4", desk.work(0, 0, 4), 3);
        check.due("copy 0 at 5", desk.work(0, 0, 5), 4);
        check.due("copy 1 at 3", desk.work(1, 0, 3), -1);
        check.due("copy 1 at 4", desk.work(1, 0, 4), 0);
        check.due("copy 1 at 5", desk.work(1, 0, 5), 1);
        check.due("copy 2", desk.work(2, 0, 5), -1);
        check.due("place 6", desk.work(0, 0, 6), -1);
        check.due("a far place", desk.work(0, 0, Integer.MAX_VALUE), -1);
        desk.lose(0, 0);
        check.due("what lacks counts, too", desk.work(0, 0, 5), 4);
        // page 0 taken at 0; w0 (1) w1 (2), page 1 taken at 2: of the needed 1 2 3 the second changes nothing that is needed
        RestoreDesk some = Check.deskOf("pages 2; piece 2; copy; take 0 0; write 0 1; write 1 1; take 0 1; close 0; write 1 2;");
        check.due("needed", some.needs(0, 0, 3, 0), 3);
        check.due("done", some.work(0, 0, 3), 2);
    }

    private static void differ() {
        RestoreDesk desk = plain();
        check.due("alike", desk.differ(0, 5, 0, 5), 0);
        check.due("0 and 5", desk.differ(0, 0, 0, 5), 3);
        check.due("3 and 4", desk.differ(0, 3, 0, 4), 0);
        check.due("4 and 5", desk.differ(0, 4, 0, 5), 1);
        check.due("place 6", desk.differ(0, 6, 0, 5), -1);
        check.due("place -1", desk.differ(0, 0, 0, -1), -1);
        check.due("line 1", desk.differ(0, 0, 1, 0), -1);
        check.due("line -1", desk.differ(-1, 0, 0, 0), -1);
        desk.restore(1, 0, 4);
        check.due("of two lines", desk.differ(0, 4, 1, 4), 0);
        check.due("of two lines", desk.differ(0, 5, 1, 4), 1);
        desk.add(0, 4);
        check.due("other records, same pages", desk.differ(0, 5, 1, 5), 0);
    }
}
