/** The document's part III and promises 27 to 43, sentence by sentence. */
public final class EdgeOutlookTest {
    private static final Check check = new Check("EdgeOutlookTest");
    private static final int LEAST = Desks.LEAST;
    private static final int GREATEST = Desks.GREATEST;
    private static final String ONE = Desks.ONE;
    private static final int[] NO_COPIES = {-1, -2, 2, 10, 32, GREATEST, LEAST};
    private static final int[] NO_LINES = {-1, -2, 1, 8, GREATEST, LEAST};
    private static final int[] NO_PLACES = {-1, -2, 6, 240, 241, GREATEST, LEAST};
    private static final int[] NO_PIECES = {-1, 3, 119, 120, 1 << 30, GREATEST, LEAST};

    public static void main(String[] args) {
        nothingHappens();
        namedOnes();
        bestOnes();
        pinnedOnes();
        dirtyOnes();
        commonOnes();
        gapsOfLines();
        stopsOfMarks();
        windows();
        reached();
        spareOnes();
        hurting();
        newestOnes();
        ages();
        doneOnes();
        differing();
        chains();
        would();
        named();
        needs();
        best();
        pinned();
        dirty();
        common();
        gaps();
        stop();
        window();
        reach();
        spare();
        hurts();
        newest();
        age();
        work();
        differ();
        check.end();
    }

    private static void name(RestoreDesk desk, int copy, int line, int place, String due) {
        check.dueName("named " + copy + " " + line + " " + place, Check.named(desk, copy, line, place), due);
    }

    // ---- the terms

    private static void nothingHappens() {
        check.words("What would be (nothing happens).");
        check.unchanged("all questions", Desks::branched, desk -> {
            for (int copy = -1; copy < 4; copy++) {
                for (int line = -1; line < 4; line++) {
                    desk.would(copy, line, 3);
                    desk.named(copy, line, 3, 0);
                    desk.needs(copy, line, 3, 0);
                    desk.window(copy, line, 0);
                    desk.work(copy, line, 3);
                    desk.hurts(line, copy);
                    desk.pinned(line, copy);
                    desk.best(line, copy);
                    desk.common(line, copy);
                    desk.gaps(line, 0);
                    desk.stop(line, 9, true);
                    desk.reach(line);
                    desk.newest(line);
                    desk.differ(line, 3, copy, 2);
                }
                desk.dirty(copy);
                desk.age(copy);
                desk.spare();
            }
            return 0;
        });
        check.unchanged("hurts of one that is doubled", () -> {
            RestoreDesk desk = Desks.branched();
            desk.twice(0, 0, true);
            desk.twice(1, 1, false);
            return desk;
        }, desk -> desk.hurts(0, 0) + desk.hurts(1, 1));
    }

    private static void namedOnes() {
        check.words("NAMED: the piece by which a RESTORE LACKS something or is UNLIKE, as a text: 't', the LINE's number, 'p',"
            + " the PIECE's number, or, of another outcome, 'ok', 'none', 'branch', 'early' (0, 1, 2, 3).");
        RestoreDesk desk = Desks.plain();
        name(desk, 0, 0, 5, "ok");
        name(desk, 2, 0, 5, "none");
        name(desk, 1, 0, 3, "early");
        desk.twice(0, 1, false);
        name(desk, 0, 0, 5, "t0p1");
        desk.lose(0, 0);
        name(desk, 0, 0, 5, "t0p0");
        desk.restore(1, 0, 4);
        name(desk, 1, 0, 5, "t0p2");
        desk.restore(0, 0, 0);
        name(desk, 1, 2, 0, "branch");
        // of a piece and a line of more than one digit, as far as there can be
        RestoreDesk far = Check.deskOf("pages 1; piece 2;" + ONE + " do 99; mark 1; mark 1; end; mark 1; mark 1;"
            + " do 6; restore 0 i 0; end; restore 0 0 198; write 0 1; write 0 2; write 0 3; lose 7 99;");
        name(far, 0, 7, 201, "t7p99");
        far.write(0, 4);
        far.twice(7, 100, false);
        name(far, 0, 7, 198, "ok");
        far.copy(-1);
        far.lose(7, 100);
        name(far, 0, 7, 202, "t7p99");
        RestoreDesk most = Check.deskOf("pages 1; piece 2;" + ONE + " do 99; mark 1; mark 1; end; do 40; mark 1; end; write 0 1; write 0 1; lose 0 119;");
        name(most, 0, 0, 240, "t0p119");
    }

    /** Records that are needed count, not those that change a page; and a later copy that needs more is not better. */
    private static void bestByNeeded() {
        String[] orders = {
            "copy; take 0 0; write 0 1; write 1 1; copy; take 1 0; take 1 1; do 3; add 1 1; end; take 0 1;",
            "copy; copy; take 1 0; write 0 1; write 1 1; take 0 0; take 0 1; do 3; add 1 1; end; take 1 1;"};
        for (int near = 0; near <= 1; near++) {
            int far = 1 - near;
            RestoreDesk desk = Check.deskOf("pages 2;" + orders[far] + " close 0; close 1;");
            check.due("records of the near one", desk.needs(near, 0, 5, 0), 3);
            check.due("changes of the near one", desk.work(near, 0, 5), 3);
            check.due("records of the far one", desk.needs(far, 0, 5, 0), 5);
            check.due("changes of the far one", desk.work(far, 0, 5), 1);
            check.due("the near one is best", desk.best(0, 5), near);
        }
    }

    private static void bestOnes() {
        check.words("BEST for a LINE and PLACE: the COPY by which RESTORE comes out 0 and fewest RECORDS are NEEDED, of alike ones the latest.");
        // copy 0 of 0, copy 1 of 2, copy 2 of 2, copy 3 of 4; each place writes
        RestoreDesk desk = Check.deskOf("pages 1; piece 2;" + ONE + " write 0 1; write 0 2; copy; take 1 0; close 1; copy; take 2 0; close 2;"
            + " write 0 3; write 0 4; copy; take 3 0; close 3; write 0 5;");
        int[] due = {0, 0, 2, 2, 3, 3};
        for (int place = 0; place < due.length; place++) {
            check.due("at " + place, desk.best(0, place), due[place]);
        }
        desk.drop(3);
        check.due("without the best", desk.best(0, 5), 2);
        desk.drop(2);
        check.due("of alike ones the other", desk.best(0, 5), 1);
        desk.lose(0, 1);
        check.due("none comes out as 0", desk.best(0, 5), -2);
        check.due("ahead of what lacks", desk.best(0, 2), 1);
        check.due("ahead of what lacks", desk.best(0, 1), 0);
        // of those that need nothing, the latest
        RestoreDesk more = Check.deskOf("pages 1; piece 2; write 0 1; copy; take 0 0; write 0 2; mark 1; copy; take 1 0; close 1; write 0 3; close 0;");
        check.due("fewest", more.best(0, 4), 1);
        RestoreDesk marks = Check.deskOf("pages 1;" + ONE + " mark 1; mark 1; mark 1;");
        marks.combine(0);
        check.due("nothing is needed by both", marks.best(0, 3), 1);
        marks.copy(1);
        check.due("an open one is not fit", marks.best(0, 3), 1);
        marks.close(2);
        check.due("the latest", marks.best(0, 3), 2);
        // one that needs less, but lacks
        RestoreDesk lacks = Check.deskOf("pages 2; piece 2; copy; take 0 0; take 0 1; close 0; write 0 1; write 0 2; copy; take 1 0; take 1 1; close 1;"
            + " write 0 3; write 0 4; lose 0 1;");
        check.due("all lack", lacks.best(0, 4), -2);
        check.due("at 2", lacks.best(0, 2), 1);
        bestByNeeded();
        // of another line
        RestoreDesk fork = Check.deskOf("pages 1; piece 2;" + ONE + " write 0 1; copy; take 1 0; close 1; write 0 2; restore 0 0 0; write 0 3;");
        check.due("of line 1", fork.best(1, 1), 0);
        check.due("of line 0", fork.best(0, 2), 1);
    }

    private static void pinnedOnes() {
        check.words("PINNED of a piece: COPIES of which a RESTORE to the LINE that goes on, at its PLACE, NEEDS it"
            + " (come out 0, or LACKS or UNLIKE by any piece).");
        RestoreDesk desk = Desks.plain();
        int[] due = {1, 1, 3};
        for (int round = 0; round < 3; round++) {
            for (int piece = 0; piece < 3; piece++) {
                check.due("pinned " + piece + " in round " + round, desk.pinned(0, piece), due[piece]);
            }
            desk.lose(0, round);
            desk.twice(0, 1, false);
        }
        desk.copy(0);
        check.due("an open one pins nothing", desk.pinned(0, 2), 3);
        desk.drop(1);
        check.due("a dropped one pins nothing", desk.pinned(0, 2), 1);
        // of the line that goes on, at its place: line 1 forks at 3
        RestoreDesk fork = Desks.plain();
        fork.restore(0, 0, 3);
        check.due("piece 0 of line 0", fork.pinned(0, 0), 1);
        check.due("piece 1 of line 0 is not on its way", fork.pinned(0, 1), 0);
        check.due("nor piece 2", fork.pinned(0, 2), 0);
        check.due("piece 1 of line 1", fork.pinned(1, 1), 1);
        fork.write(0, 1);
        check.due("copy 1 is of a branch", fork.pinned(1, 1), 1);
        RestoreDesk none = Check.deskOf("pages 1; piece 2;" + ONE + " mark 1; mark 1; mark 1;");
        check.due("nothing is needed", none.pinned(0, 0), 0);
        check.due("nothing is needed", none.pinned(0, 1), 0);
        none.write(0, 1);
        check.due("from there on", none.pinned(0, 1), 1);
        check.due("not ahead of it", none.pinned(0, 0), 0);
    }

    private static void dirtyOnes() {
        check.words("DIRTY of a COPY: pages that the LINE that goes on changed, on its WAY, behind the PLACE of which they were taken"
            + " (a page that lacks, or that makes a BRANCH for that LINE: dirty, too).");
        RestoreDesk desk = Check.deskOf("pages 3; write 0 1; copy; take 0 0; take 0 1; take 0 2;");
        check.due("at the very place", desk.dirty(0), 0);
        desk.mark(0);
        check.due("a mark changes nothing", desk.dirty(0), 0);
        desk.add(1, 0);
        check.due("one place behind", desk.dirty(0), 2);
        desk.write(0, 1);
        check.due("the same value, too", desk.dirty(0), 3);
        desk.take(0, 0);
        check.due("taken anew", desk.dirty(0), 2);
        desk.copy(0);
        check.due("upon another one", desk.dirty(1), 2);
        desk.take(1, 1);
        check.due("taken itself", desk.dirty(1), 0);
        desk.copy(-1);
        check.due("pages that lack", desk.dirty(2), 7);
        desk.take(2, 2);
        check.due("two that lack", desk.dirty(2), 3);
        // copy 0 of line 0 at 1, copy 1 at 2, copy 2 at 3; line 1 forks at 2 and changes page 0 at 3
        RestoreDesk fork = Check.deskOf("pages 2; mark 1; do 3; copy; take i 0; take i 1; close i; write 1 1; end; restore 0 0 2; write 0 1;"
            + " copy; take 3 0; take 3 1; close 3;");
        check.due("ahead of the fork", fork.dirty(0), 3);
        check.due("at the fork: page 1 is as it was", fork.dirty(1), 1);
        check.due("behind the fork", fork.dirty(2), 3);
        check.due("of line 1", fork.dirty(3), 0);
        fork.restore(0, 0, 1);
        check.due("line 2 goes on: copy 0", fork.dirty(0), 0);
        check.due("copy 1 makes a branch", fork.dirty(1), 3);
        check.due("copy 3 makes a branch", fork.dirty(3), 3);
    }

    private static void commonOnes() {
        check.words("COMMON of two LINES: the greatest PLACE up to which they have the very same RECORDS by their WAYS.");
        // line 1 at 4 of line 0 (to 6), line 2 at 3 of line 1, line 3 at 6 of line 1, line 4 at 0 of line 0, line 5 at 6 of line 0
        RestoreDesk desk = Check.deskOf("pages 1;" + ONE + " do 6; mark 1; end; restore 0 0 4; mark 1; mark 1; restore 0 1 3; mark 1; mark 1;"
            + " restore 0 1 6; mark 1; restore 0 0 0; mark 1; restore 0 0 6;");
        int[][] due = {{6, 4, 3, 4, 0, 6}, {4, 6, 3, 6, 0, 4}, {3, 3, 5, 3, 0, 3}, {4, 6, 3, 7, 0, 4}, {0, 0, 0, 0, 1, 0}, {6, 4, 3, 4, 0, 6}};
        for (int line = 0; line < 6; line++) {
            for (int other = 0; other < 6; other++) {
                check.due("common " + line + " " + other, desk.common(line, other), due[line][other]);
            }
        }
        desk.mark(1);
        check.due("a record more on the one", desk.common(0, 5), 6);
        check.due("of itself", desk.common(5, 5), 7);
    }

    private static void gapsOfLines() {
        check.words("GAPS of a LINE: PIECES from 0 to that in which its PLACE is (PLACE 0: none) of which the one of the first LINE"
            + " of its WAY that has it is not at hand: how many; the first.");
        RestoreDesk none = Check.deskOf("pages 1; piece 2;" + ONE);
        check.due("at place 0", none.gaps(0, 0), 0);
        check.due("the first", none.gaps(0, 1), -2);
        none.restore(0, 0, 0);
        check.due("a fork at place 0", none.gaps(1, 0), 0);
        check.due("line 0 goes on no more, at place 0", none.gaps(0, 0), 0);
        RestoreDesk desk = Check.deskOf("pages 1; piece 2;" + ONE + " do 7; mark 1; end;");
        check.due("all are at hand", desk.gaps(0, 0), 0);
        desk.lose(0, 1);
        check.due("one is lost", desk.gaps(0, 0), 1);
        check.due("the first", desk.gaps(0, 1), 1);
        desk.lose(0, 2);
        desk.lose(0, 0);
        check.due("three are lost", desk.gaps(0, 0), 3);
        check.due("the first", desk.gaps(0, 1), 0);
        // line 1 forks at 5: it has piece 2 itself, by its parent's record alone
        RestoreDesk fork = Check.deskOf("pages 1; piece 2;" + ONE + " do 7; mark 1; end; restore 0 0 5;");
        check.due("line 0: the one that is not full", fork.gaps(0, 0), 1);
        check.due("the first", fork.gaps(0, 1), 3);
        check.due("line 1", fork.gaps(1, 0), 0);
        fork.lose(0, 2);
        check.due("line 0", fork.gaps(0, 0), 2);
        check.due("line 1 has its own", fork.gaps(1, 0), 0);
        fork.lose(0, 1);
        check.due("line 1 has that of line 0", fork.gaps(1, 0), 1);
        check.due("the first", fork.gaps(1, 1), 1);
        fork.twice(0, 0, false);
        check.due("an unlike one is at hand", fork.gaps(1, 0), 1);
        // line 2 forks at 4, a piece's last: it has none of its own, and that of line 0 is lost
        fork.restore(0, 0, 4);
        check.due("line 2", fork.gaps(2, 0), 1);
        check.due("line 1 goes on no more", fork.gaps(1, 0), 2);
        fork.mark(1);
        check.due("line 2 with one that is not full", fork.gaps(2, 0), 1);
    }

    private static void stopsOfMarks() {
        check.words("STOP of a LINE and MARK: the PLACE of the last such MARK on its WAY, or the one ahead of it.");
        RestoreDesk desk = Check.deskOf("pages 1;" + ONE + " mark 7; mark 8; mark 7; write 0 7; restore 0 0 2; mark 9; mark 8; restore 0 0 3; add 0 7;");
        int[][] due = {{3, 2, -2}, {1, 4, 3}, {3, 2, -2}};
        for (int line = 0; line < 3; line++) {
            for (int number = 7; number <= 9; number++) {
                int place = due[line][number - 7];
                check.due("after " + number + " of " + line, desk.stop(line, number, true), place);
                check.due("before " + number + " of " + line, desk.stop(line, number, false), place == -2 ? -2 : place - 1);
            }
        }
        RestoreDesk first = Check.deskOf("mark 5;");
        check.due("after the first record", first.stop(0, 5, true), 1);
        check.due("before the first record", first.stop(0, 5, false), 0);
    }

    private static void windowOf(RestoreDesk desk, int copy, int line, int many, int first, int last) {
        check.due("window 0", desk.window(copy, line, 0), many);
        check.due("window 1", desk.window(copy, line, 1), first);
        check.due("window 2", desk.window(copy, line, 2), last);
    }

    private static void windows() {
        check.words("WINDOW of a COPY and LINE: the PLACES to which RESTORE comes out 0: how many; the first; the last.");
        RestoreDesk desk = Desks.plain();
        windowOf(desk, 0, 0, 6, 0, 5);
        windowOf(desk, 1, 0, 2, 4, 5);
        desk.twice(0, 1, false);
        windowOf(desk, 0, 0, 3, 0, 2);
        desk.lose(0, 0);
        windowOf(desk, 0, 0, 1, 0, 0);
        windowOf(desk, 1, 0, 2, 4, 5);
        desk.restore(1, 0, 4);
        windowOf(desk, 1, 0, 1, 4, 4);
        windowOf(desk, 1, 1, 1, 4, 4);
        desk.drop(1);
        windowOf(desk, 1, 1, 0, -2, -2);
        // needed from within a piece that is lost: all ahead of that place is reached
        RestoreDesk within = Check.deskOf("pages 1; piece 4;" + ONE + " do 6; mark 1; end; write 0 1; mark 1; mark 1; lose 0 1;");
        windowOf(within, 0, 0, 7, 0, 6);
        // page 0 is taken at 1 and changed at 2, page 1 is taken at 4: the first of what is needed lies ahead of all places that are not early
        RestoreDesk never = Check.deskOf("pages 2; piece 2; mark 1; copy; take 0 0; write 0 1; mark 1; mark 1; take 0 1; close 0; mark 1; lose 0 0;");
        windowOf(never, 0, 0, 0, -2, -2);
        RestoreDesk late = Check.deskOf("pages 2; piece 2; mark 1; copy; take 0 0; write 0 1; mark 1; mark 1; take 0 1; close 0; mark 1; mark 1; lose 0 1;");
        windowOf(late, 0, 0, 0, -2, -2);
        RestoreDesk last = Check.deskOf("pages 2; piece 2; mark 1; copy; take 0 0; write 0 1; mark 1; mark 1; take 0 1; close 0; mark 1; mark 1; lose 0 2;");
        windowOf(last, 0, 0, 1, 4, 4);
        windowOf(Check.deskOf("pages 1;" + ONE), 0, 0, 1, 0, 0);
        // a copy of a branch reaches no place, be it behind that of which it was taken
        RestoreDesk branch = Check.deskOf("pages 1; piece 2;" + ONE + " mark 1; mark 1; copy; take 1 0; close 1; restore 0 0 1; do 5; mark 1; end;");
        windowOf(branch, 1, 1, 0, -2, -2);
        windowOf(branch, 0, 1, 7, 0, 6);
        branch.drop(0);
        check.due("reach", branch.reach(1), 0);
        check.due("newest", branch.newest(1), -2);
        check.due("best", branch.best(1, 6), -2);
    }

    private static void reached() {
        check.words("REACH of a LINE: at how many of its PLACES (0, too) any COPY's RESTORE comes out 0.");
        check.due("place 0 alone", Check.deskOf("pages 1;" + ONE).reach(0), 1);
        check.due("no copy", Check.deskOf("mark 1;").reach(0), 0);
        check.due("no fit copy", Check.deskOf("pages 1; copy; take 0 0;").reach(0), 0);
        RestoreDesk desk = Desks.plain();
        check.due("all", desk.reach(0), 6);
        desk.lose(0, 1);
        check.due("but 3", desk.reach(0), 5);
        desk.lose(0, 0);
        check.due("0 4 5", desk.reach(0), 3);
        desk.drop(0);
        check.due("4 5", desk.reach(0), 2);
        desk.combine(1);
        check.due("by two copies, each counted once", desk.reach(0), 2);
        desk.restore(1, 0, 5);
        check.due("4 of line 0", desk.reach(0), 1);
        check.due("4 5 of line 1", desk.reach(1), 2);
        RestoreDesk most = Check.deskOf("pages 1; piece 8;" + ONE + Desks.TO_240_BY_8);
        check.due("0 to 240", most.reach(0), 241);
        check.due("the newest", most.newest(0), 240);
    }

    private static void spareOnes() {
        check.words("SPARE: KEPT pieces that no FIT COPY has PINNED.");
        check.due("none is kept", new RestoreDesk().spare(), 0);
        check.due("no copy", Check.deskOf("piece 2; do 5; mark 1; end;").spare(), 2);
        check.due("the last of all is pinned", Check.deskOf("pages 1; piece 2;" + ONE + " write 0 1; write 0 2;").spare(), 0);
        RestoreDesk desk = Check.deskOf("pages 1; piece 2;" + ONE + " mark 1; mark 1; write 0 1; mark 1; mark 1;");
        check.due("ahead of what is needed", desk.spare(), 1);
        desk.lose(0, 0);
        check.due("a lost one is not kept", desk.spare(), 0);
        desk.lose(0, 1);
        check.due("a lost one is not kept", desk.spare(), 0);
        desk = Check.deskOf("pages 1; piece 2;" + ONE + " mark 1; mark 1; write 0 1; mark 1; mark 1;");
        desk.twice(0, 0, false);
        check.due("an unlike one is kept", desk.spare(), 1);
        desk.twice(0, 1, false);
        check.due("an unlike one that is pinned", desk.spare(), 1);
        desk.drop(0);
        check.due("no copy is fit", desk.spare(), 2);
        RestoreDesk fork = Check.deskOf("pages 1; piece 2;" + ONE + " do 8; write 0 1; end; restore 0 0 5; write 0 1; write 0 1;");
        check.due("2 and 3 of line 0", fork.spare(), 2);
        check.due("of", fork.count(9), 5);
    }

    private static void hurting() {
        check.words("HURTS of a KEPT piece: by how much less REACH of the LINE that goes on would be, were it LOST.");
        RestoreDesk desk = Check.deskOf("pages 1; piece 2;" + ONE + " do 7; write 0 1; end;");
        int[] due = {7, 5, 3};
        for (int piece = 0; piece < 3; piece++) {
            check.due("piece " + piece, desk.hurts(0, piece), due[piece]);
        }
        desk.twice(0, 1, true);
        check.due("a doubled one", desk.hurts(0, 1), 5);
        desk.twice(0, 1, false);
        check.due("an unlike one", desk.hurts(0, 1), 0);
        check.due("one behind it", desk.hurts(0, 2), 0);
        check.due("one ahead of it", desk.hurts(0, 0), 2);
        RestoreDesk fork = Check.deskOf("pages 1; piece 2;" + ONE + " do 8; write 0 1; end; restore 0 0 5; write 0 1;");
        check.due("piece 1 of line 0, for line 1 to 6", fork.hurts(0, 1), 4);
        check.due("piece 2 of line 0", fork.hurts(0, 2), 0);
        check.due("piece 2 of line 1", fork.hurts(1, 2), 2);
        RestoreDesk two = Desks.plain();
        check.due("other copies come to it", two.hurts(0, 1), 1);
    }

    private static void newestOnes() {
        check.words("NEWEST of a LINE: the greatest PLACE of it to which any COPY's RESTORE comes out 0.");
        RestoreDesk desk = Desks.plain();
        check.due("all", desk.newest(0), 5);
        desk.lose(0, 1);
        check.due("by copy 1", desk.newest(0), 5);
        desk.drop(1);
        check.due("by copy 0", desk.newest(0), 2);
        desk.lose(0, 0);
        check.due("place 0", desk.newest(0), 0);
        desk.drop(0);
        check.due("none", desk.newest(0), -2);
        RestoreDesk fork = Desks.plain();
        fork.restore(0, 0, 2);
        check.due("of line 0, whose last piece is not at hand", fork.newest(0), 4);
        check.due("of line 1", fork.newest(1), 2);
    }

    private static void ages() {
        check.words("AGE of a FIT COPY: how many PLACES the LINE that goes on is behind the greatest of which a page of it was taken.");
        RestoreDesk desk = Desks.plain();
        check.due("of 0", desk.age(0), 5);
        check.due("the greatest of 3 and 4", desk.age(1), 1);
        desk.mark(1);
        check.due("it goes on", desk.age(1), 2);
        RestoreDesk first = Check.deskOf("pages 2; copy; mark 1; mark 1; take 0 0; copy; take 1 0; take 1 1; close 1; upon 1; mark 1; take 2 0; close 2;");
        check.due("the greatest is that of page 0", first.age(2), 0);
        check.due("upon which it is", first.age(1), 1);
        check.due("at place 0", Check.deskOf("pages 1;" + ONE).age(0), 0);
    }

    private static void doneOnes() {
        check.words("DONE of a RESTORE that would not come out as 1, 2 or 3: how many of the RECORDS that it NEEDS change a page"
            + " behind the PLACE of which that was taken.");
        RestoreDesk desk = Desks.plain();
        int[] zero = {0, 1, 2, 3, 3, 4};
        int[] one = {-1, -1, -1, -1, 0, 1};
        for (int round = 0; round < 3; round++) {
            for (int place = 0; place <= 5; place++) {
                check.due("copy 0 at " + place, desk.work(0, 0, place), zero[place]);
                check.due("copy 1 at " + place, desk.work(1, 0, place), one[place]);
            }
            desk.lose(0, round);
            desk.twice(0, 1, false);
        }
        // page 0 is taken at 0, page 1 at 3: of 1 to 5 those at 2 and 3 change page 1 ahead of that
        RestoreDesk some = Check.deskOf("pages 2; copy; take 0 0; write 0 1; write 1 1; add 1 1; take 0 1; close 0; add 1 1; mark 1; fill; write 0 0;");
        check.due("needed", some.needs(0, 0, 5, 0), 5);
        check.due("done to 3", some.work(0, 0, 3), 1);
        check.due("done to 4", some.work(0, 0, 4), 2);
        check.due("done to 8", some.work(0, 0, 8), 2);
        check.due("done to 9", some.work(0, 0, 9), 3);
    }

    private static void differing() {
        check.words("DIFFER: pages that are unlike as of two LINES and PLACES.");
        RestoreDesk desk = Desks.branched();
        check.due("the same", desk.differ(0, 5, 0, 5), 0);
        check.due("0 and 1", desk.differ(0, 0, 0, 1), 1);
        check.due("2 and 3", desk.differ(0, 2, 0, 3), 2);
        check.due("3 and 4: a mark", desk.differ(0, 3, 0, 4), 0);
        check.due("0 and 5", desk.differ(0, 5, 0, 0), 3);
        check.due("of lines 0 and 1 at their fork", desk.differ(0, 3, 1, 3), 0);
        check.due("of lines 0 and 1", desk.differ(0, 5, 1, 5), 3);
        check.due("of lines 1 and 2", desk.differ(1, 5, 2, 3), 3);
        check.due("of lines 0 and 2", desk.differ(0, 3, 2, 3), 2);
        RestoreDesk eight = Check.deskOf("pages 8; write 7 1; write 0 1;");
        check.due("pages 0 and 7", eight.differ(0, 0, 0, 2), 129);
        RestoreDesk alike = Check.deskOf("pages 1;" + ONE + " write 0 4; restore 0 0 0; add 0 4;");
        check.due("other records, like pages", alike.differ(0, 1, 1, 1), 0);
    }

    private static void chains() {
        check.words("CHAIN of a COPY: how many COPIES it is, with that UPON which it is, and so on.");
        RestoreDesk desk = Check.deskOf("pages 1; copy; close 0; do 9; upon i; close i+1; end;");
        for (int copy = 0; copy < 10; copy++) {
            check.due("chain of " + copy, desk.made(copy, 6), copy + 1);
        }
        desk.drop(9);
        check.due("of a dropped one", desk.made(9, 6), 10);
        RestoreDesk star = Check.deskOf("pages 1; copy; do 9; upon 0; end;");
        check.due("of one of nine upon one", star.made(9, 6), 2);
        RestoreDesk apart = Check.deskOf("pages 1; copy; copy;");
        check.due("upon none", apart.made(1, 6), 1);
    }

    // ---- the calls

    private static void would() {
        check.words("`int would(int copy, int line, int place)`: How a RESTORE would come out (8 LINES or not).");
        RestoreDesk desk = Desks.eight();
        check.due("with 8 lines", desk.would(0, 0, 0), 0);
        check.due("with 8 lines", desk.would(0, 7, 0), 0);
        check.due("with 8 lines, no such copy", desk.would(1, 0, 0), 1);
        check.due("with 8 lines, no such line", desk.would(0, 8, 0), 1);
        check.unchanged("would", Desks::plain, some -> some.would(0, 0, 5));
        check.due("the last of it", desk.window(0, 7, 2), 0);
        check.due("reach with 8 lines", desk.reach(0), 2);
        check.due("best with 8 lines", desk.best(7, 0), 0);
    }

    private static void named() {
        check.words("`int named(int copy, int line, int place, int i)`: The i-th sign of NAMED; NONE: not so many.");
        RestoreDesk desk = Desks.plain();
        int[] due = {'n', 'o', 'n', 'e', -1};
        for (int i = 0; i < due.length; i++) {
            check.due("none " + i, desk.named(9, 0, 5, i), due[i]);
        }
        for (int i : new int[] {-1, -2, 2, 3, 100, GREATEST, LEAST}) {
            check.due("ok " + i, desk.named(0, 0, 5, i), -1);
        }
        check.due("ok 1", desk.named(0, 0, 5, 1), 'k');
        desk.lose(0, 1);
        int[] piece = {'t', '0', 'p', '1', -1};
        for (int i = 0; i < piece.length; i++) {
            check.due("a piece " + i, desk.named(0, 0, 5, i), piece[i]);
        }
        check.due("branch 5", branchName().named(1, 1, 2, 5), 'h');
        check.due("branch 6", branchName().named(1, 1, 2, 6), -1);
    }

    private static RestoreDesk branchName() {
        RestoreDesk desk = Desks.plain();
        desk.restore(0, 0, 2);
        return desk;
    }

    private static void needs() {
        check.words("`int needs(int copy, int line, int place, int what)`: Of a RESTORE that would not come out as 1, 2 or 3:"
            + " what 0 how many RECORDS are NEEDED, 1 the PLACE of the first, 2 the first PIECE, 3 the last (nothing: -2). NONE for others.");
        RestoreDesk desk = Desks.plain();
        int[][] due = {{0, -2, -2, -2}, {1, 1, 0, 0}, {2, 1, 0, 0}, {3, 1, 0, 1}, {4, 1, 0, 1}, {5, 1, 0, 2}};
        for (int round = 0; round < 2; round++) {
            for (int place = 0; place <= 5; place++) {
                for (int what = 0; what < 4; what++) {
                    check.due("needs at " + place + " what " + what, desk.needs(0, 0, place, what), due[place][what]);
                }
            }
            desk.lose(0, 0);
            desk.twice(0, 1, false);
        }
        for (int what : new int[] {-1, -2, 4, 5, GREATEST, LEAST}) {
            check.due("what " + what, desk.needs(0, 0, 5, what), -1);
        }
        for (int what = 0; what < 4; what++) {
            check.due("none", desk.needs(2, 0, 5, what), -1);
            check.due("early", desk.needs(1, 0, 3, what), -1);
            check.due("branch", branchName().needs(1, 1, 2, what), -1);
            check.due("no such line", desk.needs(0, 1, 0, what), -1);
            check.due("no such place", desk.needs(0, 0, 6, what), -1);
            check.due("place -1", desk.needs(0, 0, -1, what), -1);
        }
        int[] nothing = {0, -2, -2, -2};
        for (int what = 0; what < 4; what++) {
            check.due("nothing", desk.needs(1, 0, 4, what), nothing[what]);
        }
    }

    private static void best() {
        check.words("`int best(int line, int place)`: BEST; -2: none; NONE: no such LINE, PLACE.");
        RestoreDesk desk = Desks.plain();
        for (int line : NO_LINES) {
            check.due("line " + line, desk.best(line, 0), -1);
        }
        for (int place : NO_PLACES) {
            check.due("place " + place, desk.best(0, place), -1);
        }
        check.due("place 0", desk.best(0, 0), 0);
        check.due("the last place", desk.best(0, 5), 1);
        check.due("no copy", new RestoreDesk().best(0, 0), -2);
        check.due("no fit copy", Check.deskOf("pages 1; copy; take 0 0;").best(0, 0), -2);
    }

    private static void pinned() {
        check.words("`int pinned(int line, int piece)`: PINNED (bits); NONE: no such PIECE.");
        RestoreDesk desk = Check.deskOf("pages 1; piece 2;" + ONE + " do 9; upon 0; close i+1; end; write 0 1;");
        check.due("ten of them", desk.pinned(0, 0), 1023);
        RestoreDesk plain = Desks.plain();
        for (int piece : NO_PIECES) {
            check.due("piece " + piece, plain.pinned(0, piece), -1);
        }
        for (int line : NO_LINES) {
            check.due("line " + line, plain.pinned(line, 0), -1);
        }
        check.due("one of the parent alone", Desks.branched().pinned(1, 0), -1);
        check.due("of no copy", Check.deskOf("mark 1;").pinned(0, 0), 0);
        check.due("at place 0", new RestoreDesk().pinned(0, 0), -1);
    }

    private static void dirty() {
        check.words("`int dirty(int copy)`: DIRTY (bits); NONE: no such COPY.");
        RestoreDesk desk = Desks.plain();
        check.due("copy 0", desk.dirty(0), 3);
        check.due("copy 1", desk.dirty(1), 1);
        for (int copy : NO_COPIES) {
            check.due("copy " + copy, desk.dirty(copy), -1);
        }
        RestoreDesk eight = Check.deskOf("pages 8; copy;");
        check.due("eight pages that lack", eight.dirty(0), 255);
        RestoreDesk dropped = Desks.plain();
        dropped.drop(1);
        check.due("a dropped one", dropped.dirty(1), 1);
    }

    private static void common() {
        check.words("`int common(int line, int other)`: COMMON; NONE: no such LINES.");
        RestoreDesk desk = Desks.plain();
        check.due("of itself", desk.common(0, 0), 5);
        for (int line : NO_LINES) {
            check.due("line " + line, desk.common(line, 0), -1);
            check.due("other " + line, desk.common(0, line), -1);
            check.due("both " + line, desk.common(line, line), -1);
        }
        check.due("at place 0", new RestoreDesk().common(0, 0), 0);
    }

    private static void gaps() {
        check.words("`int gaps(int line, int what)`: GAPS: what 0 how many, 1 the first (-2: none); NONE: no such ones.");
        RestoreDesk desk = Desks.plain();
        check.due("how many", desk.gaps(0, 0), 0);
        check.due("the first", desk.gaps(0, 1), -2);
        for (int what : new int[] {-1, 2, 3, GREATEST, LEAST}) {
            check.due("what " + what, desk.gaps(0, what), -1);
        }
        for (int line : NO_LINES) {
            check.due("line " + line, desk.gaps(line, 0), -1);
            check.due("line " + line, desk.gaps(line, 1), -1);
        }
    }

    private static void stop() {
        check.words("`int stop(int line, int number, boolean after)`: STOP: before (false), or after it (true); -2: no such MARK; NONE: no such LINE.");
        RestoreDesk desk = Desks.plain();
        check.due("before", desk.stop(0, 5, false), 3);
        check.due("after", desk.stop(0, 5, true), 4);
        for (boolean after : new boolean[] {true, false}) {
            for (int number : new int[] {0, 1, 2, 3, 4, -1, -2, GREATEST, LEAST}) {
                check.due("no mark " + number, desk.stop(0, number, after), -2);
            }
            for (int line : NO_LINES) {
                check.due("line " + line, desk.stop(line, 5, after), -1);
            }
        }
        desk.mark(LEAST);
        check.due("a mark of any number", desk.stop(0, LEAST, true), 6);
        check.due("an empty record is none", Check.deskOf("mark 1; fill;").stop(0, -2, true), -2);
        check.due("a mark of -2 is one", Check.deskOf("mark 0-2;").stop(0, -2, true), 1);
        check.due("a mark of a page's number", Check.deskOf("write 3 3; add 3 3;").stop(0, 3, true), -2);
    }

    private static void window() {
        check.words("`int window(int copy, int line, int what)`: WINDOW: what 0 how many, 1 the first, 2 the last (-2: none); NONE: no such ones.");
        RestoreDesk desk = Desks.plain();
        for (int what : new int[] {-1, 3, 4, GREATEST, LEAST}) {
            check.due("what " + what, desk.window(0, 0, what), -1);
        }
        for (int what = 0; what < 3; what++) {
            for (int copy : NO_COPIES) {
                check.due("copy " + copy, desk.window(copy, 0, what), -1);
            }
            for (int line : NO_LINES) {
                check.due("line " + line, desk.window(0, line, what), -1);
            }
        }
        windowOf(Check.deskOf("pages 1; copy;"), 0, 0, 0, -2, -2);
        windowOf(branchName(), 1, 1, 0, -2, -2);
    }

    private static void reach() {
        check.words("`int reach(int line)`: REACH; NONE: no such LINE.");
        RestoreDesk desk = Desks.plain();
        check.due("line 0", desk.reach(0), 6);
        for (int line : NO_LINES) {
            check.due("line " + line, desk.reach(line), -1);
        }
    }

    private static void spare() {
        check.words("`int spare()`: SPARE ones: how many.");
        RestoreDesk desk = Desks.plain();
        check.due("all are pinned", desk.spare(), 0);
        desk.drop(0);
        check.due("0 and 1", desk.spare(), 2);
        RestoreDesk most = Check.deskOf("piece 2; do 99; mark 1; mark 1; end; do 42; mark 1; end;");
        check.due("all of the most there can be", most.spare(), 120);
    }

    private static void hurts() {
        check.words("`int hurts(int line, int piece)`: HURTS; NONE: it is not KEPT, no such piece.");
        RestoreDesk desk = Desks.plain();
        check.due("kept", desk.hurts(0, 0), 3);
        check.due("not full", desk.hurts(0, 2), -1);
        for (int piece : NO_PIECES) {
            check.due("piece " + piece, desk.hurts(0, piece), -1);
        }
        for (int line : NO_LINES) {
            check.due("line " + line, desk.hurts(line, 0), -1);
        }
        desk.lose(0, 0);
        check.due("lost", desk.hurts(0, 0), -1);
        check.due("one of the parent alone", Desks.branched().hurts(1, 0), -1);
        check.due("without copies", Check.deskOf("piece 2; mark 1; mark 1;").hurts(0, 0), 0);
    }

    private static void newest() {
        check.words("`int newest(int line)`: NEWEST; -2: none; NONE: no such LINE.");
        RestoreDesk desk = Desks.plain();
        for (int line : NO_LINES) {
            check.due("line " + line, desk.newest(line), -1);
        }
        check.due("none", new RestoreDesk().newest(0), -2);
        check.due("place 0", Check.deskOf("pages 1;" + ONE).newest(0), 0);
    }

    private static void age() {
        check.words("`int age(int copy)`: AGE (may be below 0, if it is of another BRANCH); -1000: not FIT, no such one.");
        RestoreDesk desk = Desks.plain();
        for (int copy : NO_COPIES) {
            check.due("copy " + copy, desk.age(copy), -1000);
        }
        desk.copy(0);
        check.due("open", desk.age(2), -1000);
        desk.close(2);
        check.due("closed", desk.age(2), 5);
        desk.drop(2);
        check.due("dropped", desk.age(2), -1000);
        desk.copy(-1);
        desk.close(3);
        check.due("pages lack", desk.age(3), -1000);
        desk.restore(0, 0, 0);
        check.due("of another branch", desk.age(1), -4);
        check.due("of this one", desk.age(0), 0);
    }

    private static void work() {
        check.words("`int work(int copy, int line, int place)`: DONE; NONE: it would come out as 1, 2 or 3.");
        RestoreDesk desk = Desks.plain();
        for (int copy : NO_COPIES) {
            check.due("copy " + copy, desk.work(copy, 0, 5), -1);
        }
        for (int line : NO_LINES) {
            check.due("line " + line, desk.work(0, line, 0), -1);
        }
        for (int place : NO_PLACES) {
            check.due("place " + place, desk.work(0, 0, place), -1);
        }
        check.due("early", desk.work(1, 0, 3), -1);
        check.due("branch", branchName().work(1, 1, 2), -1);
        check.due("nothing", desk.work(1, 0, 4), 0);
        desk.twice(0, 0, false);
        check.due("unlike", desk.work(0, 0, 5), 4);
        desk.lose(0, 0);
        check.due("lacks", desk.work(0, 0, 5), 4);
    }

    private static void differ() {
        check.words("`int differ(int line, int place, int other, int there)`: DIFFER (bits); NONE: no such ones.");
        RestoreDesk desk = Desks.plain();
        for (int line : NO_LINES) {
            check.due("line " + line, desk.differ(line, 0, 0, 0), -1);
            check.due("other " + line, desk.differ(0, 0, line, 0), -1);
        }
        for (int place : NO_PLACES) {
            check.due("place " + place, desk.differ(0, place, 0, 0), -1);
            check.due("there " + place, desk.differ(0, 0, 0, place), -1);
        }
        check.due("the first and the last", desk.differ(0, 0, 0, 5), 3);
    }
}
