import java.util.function.Supplier;

/** Desks that more than one test begins with. */
final class Desks {
    /** A copy of the one page at place 0, that needs nothing as long as the page is left alone. */
    static final String ONE = " copy; take 0 0; close 0;";
    static final String TO_238_BY_7 = " do 34; mark 1; fill; end;";
    static final String TO_240_BY_8 = " do 30; mark 1; fill; end;";
    static final int LEAST = Integer.MIN_VALUE;
    static final int GREATEST = Integer.MAX_VALUE;

    private Desks() {
    }

    static Supplier<RestoreDesk> text(String text) {
        return () -> Check.deskOf(text);
    }

    /**
     * Line 0: w0=5 a0+3 | w1=7 m9 | a1+1; line 1 of its place 3: a0+10 | m9; line 2 of line 1's place 2: w1=1.
     * Copy 0 is of place 0, copy 1 is open and of line 2, copy 2 is closed and lacks pages.
     */
    static RestoreDesk branched() {
        RestoreDesk desk = Check.deskOf("pages 2; piece 2; copy; take 0 0; take 0 1; close 0; write 0 5; add 0 3; write 1 7; mark 9;"
            + " add 1 1; restore 0 0 3; add 0 10; mark 9; restore 0 1 2; write 1 1; copy; take 1 0; copy; close 2;");
        desk.hold(2);
        return desk;
    }

    /** Pages 2, pieces of 2. Copy 0 of place 0; w0=1 a1+2 | w1=3 (copy 1: page 0 at 3) m5 (page 1 at 4) | a0+4. */
    static RestoreDesk plain() {
        return Check.deskOf("pages 2; piece 2; copy; take 0 0; take 0 1; close 0; write 0 1; add 1 2; write 1 3;"
            + " copy; take 1 0; mark 5; take 1 1; close 1; add 0 4;");
    }

    /** Eight lines, each of the one ahead, all at place 0 but line 0. */
    static RestoreDesk eight() {
        return Check.deskOf("pages 1;" + ONE + " mark 1; do 7; restore 0 i 0; end;");
    }

    /** Ten copies, of which the first is fit and carries the second. */
    static RestoreDesk ten() {
        return Check.deskOf("pages 1; copy; take 0 0; close 0; upon 0; do 8; copy; end;");
    }

    /** At place 240, in the midst of a piece. */
    static RestoreDesk at240() {
        return Check.deskOf("pages 1; piece 7;" + ONE + TO_238_BY_7 + " mark 2; write 0 3;");
    }

    /** All 600 records are made; the line that goes on is at 4, in the midst of a piece. */
    static RestoreDesk with600() {
        return Check.deskOf("pages 1; piece 8;" + ONE + TO_240_BY_8 + " restore 0 0 0;" + TO_240_BY_8 + " restore 0 1 0;"
            + " do 14; mark 1; fill; end; do 4; mark 3; end; restore 0 2 0; do 4; mark 3; end;");
    }
}
