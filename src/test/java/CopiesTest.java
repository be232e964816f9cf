/** Promises 10 to 14, 23 to 26, 32 and 41: copies and what they have. */
public final class CopiesTest {
    private static final Check check = new Check("CopiesTest");

    public static void main(String[] args) {
        begins();
        takes();
        closes();
        chains();
        fits();
        combines();
        drops();
        dirties();
        ages();
        check.end();
    }

    private static void begins() {
        RestoreDesk desk = new RestoreDesk();
        check.due("copy upon no such one", desk.copy(0), -1);
        check.due("copy upon -2", desk.copy(-2), -1);
        check.due("copy upon none", desk.copy(RestoreDesk.NONE), 0);
        check.due("copy upon itself to be", desk.copy(1), -1);
        check.due("copy upon an open one", desk.copy(0), 1);
        for (int n = 2; n < 10; n++) {
            check.due("copy", desk.copy(-1), n);
        }
        check.due("an 11th", desk.copy(-1), -1);
        check.due("an 11th upon one", desk.copy(0), -1);
        check.due("copies", desk.count(6), 10);
        check.due("open ones", desk.count(12), 1023);
        check.due("upon none", desk.made(0, 1), -2);
        check.due("upon 0", desk.made(1, 1), 0);
        check.due("of line 0", desk.made(9, 0), 0);
        for (int copy = 0; copy < 10; copy++) {
            desk.close(copy);
        }
        for (int copy = 9; copy >= 0; copy--) {
            check.due("drop " + copy, desk.drop(copy), true);
        }
        check.due("dropped ones count, too", desk.copy(-1), -1);
    }

    private static void takes() {
        RestoreDesk desk = Check.deskOf("pages 2; copy; write 0 5; write 1 6;");
        check.due("take", desk.take(0, 0), true);
        check.due("take of page 2", desk.take(0, 2), false);
        check.due("take of page -1", desk.take(0, -1), false);
        check.due("take of copy 1", desk.take(1, 0), false);
        check.due("take of copy -1", desk.take(-1, 0), false);
        check.due("held", desk.held(0, 0), 5);
        check.due("taken", desk.taken(0, 0), 2);
        check.due("source", desk.source(0, 0), 0);
        check.due("held, lacks", desk.held(0, 1), 0);
        check.due("taken, lacks", desk.taken(0, 1), -2);
        check.due("source, lacks", desk.source(0, 1), -2);
        check.due("pages taken", desk.made(0, 3), 1);
        desk.add(0, 10);
        check.due("it goes on", desk.held(0, 0), 5);
        check.due("taken once more", desk.take(0, 0), true);
        check.due("anew", desk.held(0, 0), 15);
        check.due("its place", desk.taken(0, 0), 3);
        check.due("held of page 2", desk.held(0, 2), 0);
        check.due("held of copy 1", desk.held(1, 0), 0);
        check.due("held of copy -1", desk.held(-1, 0), 0);
        check.due("held of page -1", desk.held(0, -1), 0);
        check.due("taken of page 2", desk.taken(0, 2), -1);
        check.due("taken of copy 1", desk.taken(1, 0), -1);
        check.due("source of page -1", desk.source(0, -1), -1);
        check.due("source of copy -1", desk.source(-1, 0), -1);
        desk.take(0, 1);
        desk.close(0);
        check.due("take of a closed one", desk.take(0, 0), false);
        desk.copy(-1);
        desk.restore(0, 0, 3);
        check.due("take of another line", desk.take(1, 0), false);
        check.due("close of another line", desk.close(1), true);
        desk.copy(0);
        check.due("take of this line", desk.take(2, 0), true);
        check.due("its line", desk.made(2, 0), 1);
        check.due("its source", desk.source(2, 0), 1);
        check.due("the source of a page upon which it is", desk.source(2, 1), 0);
    }

    private static void closes() {
        RestoreDesk desk = Check.deskOf("copy; copy;");
        check.due("close", desk.close(1), true);
        check.due("close again", desk.close(1), false);
        check.due("close of copy 2", desk.close(2), false);
        check.due("close of copy -1", desk.close(-1), false);
        check.due("open ones", desk.count(12), 1);
        check.due("open", desk.made(0, 2), 1);
        check.due("closed", desk.made(1, 2), 0);
        check.due("what 8", desk.made(0, 8), -1);
        check.due("what -1", desk.made(0, -1), -1);
        check.due("made of copy 2", desk.made(2, 0), -1);
        check.due("made of copy -1", desk.made(-1, 0), -1);
    }

    private static RestoreDesk chained() {
        // copy 0: pages 0 1 2 at 1; copy 1 upon 0: page 1 at 3; copy 2 upon 1: page 2 at 4, page 0 at 5
        return Check.deskOf("pages 3; piece 3; write 0 1; copy; take 0 0; take 0 1; take 0 2; close 0; write 1 2; write 0 3;"
            + " upon 0; take 1 1; close 1; write 2 4; upon 1; take 2 2; write 0 5; take 2 0; close 2; write 1 6;");
    }

    private static void chains() {
        RestoreDesk desk = chained();
        int[][] held = {{1, 0, 0}, {1, 2, 0}, {5, 2, 4}};
        int[][] taken = {{1, 1, 1}, {1, 3, 1}, {5, 3, 4}};
        for (int copy = 0; copy < 3; copy++) {
            for (int page = 0; page < 3; page++) {
                check.due("held " + copy + " " + page, desk.held(copy, page), held[copy][page]);
                check.due("taken " + copy + " " + page, desk.taken(copy, page), taken[copy][page]);
                check.due("source " + copy + " " + page, desk.source(copy, page), 0);
            }
            check.due("chain", desk.made(copy, 6), copy + 1);
            check.due("pages it has", desk.made(copy, 4), 7);
            check.due("fit", desk.made(copy, 5), 1);
            check.due("not dropped", desk.made(copy, 7), 0);
        }
        check.due("pages taken", desk.made(0, 3), 7);
        check.due("pages taken", desk.made(1, 3), 2);
        check.due("pages taken", desk.made(2, 3), 5);
        check.due("fit ones", desk.count(7), 7);
        RestoreDesk longest = Check.deskOf("pages 1; write 0 3; copy; take 0 0; close 0; do 9; upon i; close i + 1; end;");
        check.due("the longest chain", longest.made(9, 6), 10);
        check.due("its page", longest.held(9, 0), 3);
        check.due("its pages", longest.made(9, 4), 1);
        check.due("all are fit", longest.count(7), 1023);
        check.due("the longest chain is restored", longest.would(9, 0, 1), 0);
    }

    private static void fits() {
        RestoreDesk desk = Check.deskOf("pages 2; copy; take 0 0; upon 0; take 1 1; close 1;");
        check.due("upon an open one", desk.made(1, 5), 0);
        check.due("pages it has", desk.made(1, 4), 3);
        check.due("fit ones", desk.count(7), 0);
        desk.close(0);
        check.due("a page lacks", desk.made(0, 5), 0);
        check.due("all are closed", desk.made(1, 5), 1);
        check.due("fit ones", desk.count(7), 2);
        desk.copy(1);
        check.due("open", desk.made(2, 5), 0);
        check.due("it has all pages", desk.made(2, 4), 3);
        desk.close(2);
        check.due("closed, with no page of its own", desk.made(2, 5), 1);
        check.due("no page of its own", desk.made(2, 3), 0);
    }

    private static void combines() {
        RestoreDesk desk = chained();
        check.due("combine", desk.combine(2), 3);
        check.due("its line", desk.made(3, 0), 0);
        check.due("upon none", desk.made(3, 1), -2);
        check.due("closed", desk.made(3, 2), 0);
        check.due("its pages", desk.made(3, 3), 7);
        check.due("fit", desk.made(3, 5), 1);
        check.due("chain", desk.made(3, 6), 1);
        for (int page = 0; page < 3; page++) {
            check.due("held", desk.held(3, page), desk.held(2, page));
            check.due("taken", desk.taken(3, page), desk.taken(2, page));
        }
        check.due("combine of copy 4", desk.combine(4), -1);
        check.due("combine of copy -1", desk.combine(-1), -1);
        desk.copy(-1);
        check.due("combine of an open one", desk.combine(4), -1);
        desk.close(4);
        check.due("combine of one that is not fit", desk.combine(4), -1);
        check.due("copies", desk.count(6), 5);
        desk.drop(3);
        check.due("combine of a dropped one", desk.combine(3), -1);
        for (int n = 5; n < 10; n++) {
            check.due("combine", desk.combine(0), n);
        }
        check.due("an 11th", desk.combine(0), -1);
        // of a copy whose pages are of two lines
        RestoreDesk lines = Check.deskOf("pages 2; write 0 1; copy; take 0 0; take 0 1; close 0; restore 0 0 1; write 1 7; upon 0; take 1 1; close 1;"
            + " restore 1 1 2; write 0 9;");
        check.due("combine", lines.combine(1), 2);
        check.due("its line is the copy's", lines.made(2, 0), 1);
        check.due("source of page 0", lines.source(2, 0), 0);
        check.due("source of page 1", lines.source(2, 1), 1);
        check.due("place of page 0", lines.taken(2, 0), 1);
        check.due("place of page 1", lines.taken(2, 1), 2);
        check.due("page 0", lines.held(2, 0), 1);
        check.due("page 1", lines.held(2, 1), 7);
    }

    private static void drops() {
        RestoreDesk desk = chained();
        check.due("drop of one that carries another", desk.drop(0), false);
        check.due("drop of one that carries another", desk.drop(1), false);
        check.due("drop of copy 3", desk.drop(3), false);
        check.due("drop of copy -1", desk.drop(-1), false);
        check.due("drop", desk.drop(2), true);
        check.due("drop again", desk.drop(2), false);
        check.due("close of a dropped one", desk.close(2), false);
        check.due("dropped ones", desk.count(13), 4);
        check.due("dropped", desk.made(2, 7), 1);
        check.due("a dropped one is not fit", desk.made(2, 5), 0);
        check.due("its pages are told", desk.held(2, 0), 5);
        check.due("fit ones", desk.count(7), 3);
        check.due("drop of one that carries a dropped one", desk.drop(1), true);
        check.due("copies", desk.count(6), 3);
        check.due("copy upon a dropped one", desk.copy(2), 3);
        for (int page = 0; page < 3; page++) {
            desk.take(3, page);
        }
        check.due("drop of an open one", desk.drop(3), false);
        desk.close(3);
        check.due("upon a dropped one: not fit", desk.made(3, 5), 0);
        check.due("its chain", desk.made(3, 6), 4);
        check.due("drop it", desk.drop(3), true);
        check.due("drop the last", desk.drop(0), true);
        check.due("all dropped", desk.count(13), 15);
        check.due("none is fit", desk.count(7), 0);
        check.due("a copy upon a dropped one", desk.copy(0), 4);
    }

    private static void dirties() {
        RestoreDesk desk = chained();
        check.due("dirty 0", desk.dirty(0), 7);
        check.due("dirty 1", desk.dirty(1), 7);
        check.due("dirty 2", desk.dirty(2), 2);
        check.due("dirty of copy 3", desk.dirty(3), -1);
        check.due("dirty of copy -1", desk.dirty(-1), -1);
        desk.copy(-1);
        check.due("pages that lack", desk.dirty(3), 7);
        desk.take(3, 0);
        check.due("of an open one", desk.dirty(3), 6);
        desk.add(0, 0);
        check.due("added to", desk.dirty(3), 7);
        desk.take(3, 0);
        desk.mark(0);
        check.due("marks change nothing", desk.dirty(3), 6);
        // line 0: w0 (1), copy 0 of 1, w1 (2), copy 1 of 2, w0 (3); line 1 forks at 1
        RestoreDesk fork = Check.deskOf("pages 2; write 0 1; copy; take 0 0; take 0 1; close 0; write 1 1; upon 0; take 1 1; close 1; write 0 2; restore 0 0 1;");
        check.due("of the same branch", fork.dirty(0), 0);
        check.due("behind the fork", fork.dirty(1), 2);
        fork.write(0, 3);
        check.due("changed on the new line", fork.dirty(0), 1);
        check.due("both", fork.dirty(1), 3);
        fork.copy(-1);
        fork.take(2, 0);
        fork.take(2, 1);
        fork.close(2);
        check.due("restore", fork.restore(0, 0, 1), 0);
        check.due("of a line that is not on the way", fork.dirty(2), 3);
        check.due("of one on the way", fork.dirty(0), 0);
        fork.write(1, 3);
        check.due("of one on the way, changed", fork.dirty(0), 2);
        fork.drop(2);
        check.due("a dropped one", fork.dirty(2), 3);
    }

    private static void ages() {
        RestoreDesk desk = chained();
        check.due("age 0", desk.age(0), 5);
        check.due("age 1", desk.age(1), 3);
        check.due("age 2", desk.age(2), 1);
        check.due("age of copy 3", desk.age(3), -1000);
        check.due("age of copy -1", desk.age(-1), -1000);
        desk.copy(2);
        check.due("age of one that is not fit", desk.age(3), -1000);
        desk.restore(0, 0, 2);
        check.due("age 0", desk.age(0), 1);
        check.due("of another branch", desk.age(2), -3);
    }
}
