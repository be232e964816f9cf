/** Promises 2 to 5, and the texts of the part I. */
public final class TextTest {
    private static final Check check = new Check("TextTest");

    public static void main(String[] args) {
        tape();
        heads();
        tokens();
        syntax();
        room();
        wrongNumbers();
        expressions();
        words();
        rounds();
        tellsAreCalls();
        faultsChangeNothing();
        check.end();
    }

    private static void fault(String text, int fault, int place) {
        RestoreDesk desk = new RestoreDesk();
        check.due("read of '" + text + "'", Check.read(desk, text), fault);
        check.due("place of '" + text + "'", desk.place(), place);
    }

    private static void fine(String text) {
        fault(text, 0, -1);
    }

    private static void tape() {
        RestoreDesk desk = new RestoreDesk();
        check.due("place ahead of a read", desk.place(), -1);
        check.due("back(0) of nothing", desk.back(0), 0);
        check.due("back(1) of nothing", desk.back(1), -1);
        for (int n = 1; n <= 100; n++) {
            check.due("feed " + n, desk.feed(538976288, 538976288, 538976288, 538976288, 538976288), 20L * n);
        }
        check.due("feed beyond 2000", desk.feed(1, 2, 3, 4, 5), -1);
        check.due("bytes", desk.count(8), 2000);
        check.due("back(-1)", desk.back(-1), -1);
        check.due("back(2001)", desk.back(2001), -1);
        check.due("back of the least int", desk.back(Integer.MIN_VALUE), -1);
        check.due("back(1)", desk.back(1), 1999);
        check.due("feed with 1 too many", desk.feed(1, 2, 3, 4, 5), -1);
        check.due("back(19)", desk.back(19), 1980);
        check.due("feed to 2000", desk.feed(0x20202020, 0x20202020, 0x20202020, 0x20202020, 0x20202020), 2000);
        check.due("read of blanks", desk.read(), 0);
        check.due("tape behind a read", desk.count(8), 0);
        // 'piece 3;' then blanks: the highest byte comes first
        desk.feed(0x70696563, 0x6520333b, 0x20202020, 0x090a0d20, 0x20202020);
        check.due("read of bytes", desk.read(), 0);
        check.due("size told by bytes", desk.count(1), 3);
        // a byte above 127
        desk.feed(0x202020e9, 0x20202020, 0x20202020, 0x20202020, 0x20202020);
        check.due("read of a strange byte", desk.read(), 1);
        check.due("its place", desk.place(), 3);
    }

    private static void heads() {
        for (int pages = 0; pages <= 9; pages++) {
            fault("pages " + pages + ";", pages < 1 || pages > 8 ? 5 : 0, pages < 1 || pages > 8 ? 6 : -1);
        }
        for (int size = 0; size <= 9; size++) {
            fault("piece " + size + ";", size < 2 || size > 8 ? 5 : 0, size < 2 || size > 8 ? 6 : -1);
        }
        RestoreDesk desk = Check.deskOf("pages 7; piece 5;");
        check.due("pages", desk.count(0), 7);
        check.due("size", desk.count(1), 5);
        check.due("read of nothing", desk.read(), 0);
        check.due("pages of an empty text", desk.count(0), 4);
        check.due("size of an empty text", desk.count(1), 4);
        check.due("pages alone", Check.deskOf("pages 2;").count(1), 4);
        check.due("piece alone", Check.deskOf("piece 2;").count(0), 4);
        fault("piece 2; pages 2;", 1, 9);
        fault("pages 2; pages 2;", 1, 9);
        fault("fill; pages 2;", 1, 6);
        fault("pages 2 piece 2;", 1, 8);
        fault("pages i;", 1, 6);
        fault("pages (2);", 1, 6);
        fine("pages 0008; piece 0002;");
    }

    private static void tokens() {
        fine("pages2;piece2;write0 1;add(0)1;mark\ti\n;fill\r;");
        fault("Fill;", 1, 0);
        fault("fill;\u0000", 1, 5);
        fault("fill;  .", 1, 7);
        fault("fills;", 1, 0);
        fault("fil;", 1, 0);
        fault("doend;", 1, 0);
        fault("mark ij;", 1, 5);
        fault("mark abcdefghi;", 1, 5);
        fault("mark placeplace;", 1, 5);
        fine("mark 9999;");
        fault("mark 10000;", 1, 5);
        fault("mark 00001;", 1, 5);
        fine("mark 0001;");
        fine("mark 1*i;");
        fault("mark 1i;", 1, 6);
        fine("write 1i;");
        check.due("1i are two", Check.deskOf("write 1i;").record(0, 1, 1), 1);
    }

    private static void syntax() {
        fault("fill", 1, 4);
        fault("fill  ", 1, 6);
        fault("pages", 1, 5);
        fault(";", 1, 0);
        fault("write;", 1, 5);
        fault("write 1;", 1, 7);
        fault("write 1 2 3;", 1, 10);
        fault("write 1 -2;", 1, 10);
        fault("write -1 2;", 1, 6);
        fault("mark 1 + ;", 1, 9);
        fault("mark + 1;", 1, 5);
        fault("mark (1;", 1, 7);
        fault("mark 1);", 1, 6);
        fault("mark ();", 1, 6);
        fault("mark (1 2);", 1, 8);
        fault("mark 1 * * 2;", 1, 9);
        fault("copy 0;", 1, 5);
        fault("upon;", 1, 4);
        fault("fill 1;", 1, 5);
        fault("close 1 2;", 1, 8);
        fault("restore 1 2;", 1, 11);
        fault("restore 1 2 3 4;", 1, 14);
        fault("lose 1;", 1, 6);
        fault("take 1;", 1, 6);
        fault("drop 0;", 1, 0);
        fault("end;", 1, 0);
        fault("do 1; end; end;", 1, 11);
        fault("do 1; fill;", 1, 11);
        fault("do 1; fill; end", 1, 15);
        fault("do i; end;", 1, 3);
        fault("do 1 + 1; end;", 1, 5);
        fault("do; end;", 1, 2);
        fault("i;", 1, 0);
        fault("mark do;", 1, 5);
        fault("mark write;", 1, 5);
        fine("mark ((((((1))))));");
        fine("write 1 + 2 (3) * 4;");
        fine("restore told (copies) line;");
    }

    private static void room() {
        // 400 tokens are fine, one more is not
        fine("fill;".repeat(200));
        fault("fill;".repeat(200) + " fill;", 2, 1001);
        fault("fill;".repeat(199) + "mark 1;", 2, 1001);
        fault("fill;".repeat(200) + " ;", 1, 1001);
        fault("fill;".repeat(200) + " ?", 1, 1001);
        fault("fill;".repeat(200) + " 12345", 1, 1001);
        fault("fill;".repeat(199) + "fill", 1, 999);
        fault("fill;".repeat(199) + "mark 1", 1, 1001);
        fault("fill;".repeat(200) + "   ", 0, -1);
        fault("mark 1" + "+1".repeat(199) + ";", 2, 404);
        fault("mark 1" + "+1".repeat(198) + ";", 0, -1);
        fine("do 1; do 1; do 1; end; end; end; do 1; do 1; do 1; end; end; end;");
        fault("do 1; do 1; do 1; do 1; end; end; end; end;", 2, 18);
        fault("do 1; do 1; do 1; do", 2, 18);
        fault("do 1; do 1; do 1; end; do 1; do 1; end;", 2, 29);
        fault("mark (((((((1)))))));", 2, 11);
        fault("mark (((((((;", 2, 11);
        fine("mark ((((((1)))))) + ((((((1))))));");
        fine("write ((((((1)))))) ((((((1))))));");
        fault("mark (((((( + ;", 1, 12);
        fault("pages 0; do 1; do 1; do 1; do 1;", 2, 27);
        fault("pages 0; fill", 1, 13);
        // a 401st token that is a 4th do, too
        fault("fill;".repeat(195) + "do 1;do 1;do 1;" + "do", 2, 990);
    }

    private static void wrongNumbers() {
        fault("pages 9; piece 9;", 5, 6);
        fault("pages 1; piece 1;", 5, 15);
        fine("do 99; end;");
        fine("do 0; end;");
        fault("do 100; end;", 5, 3);
        fault("do 9999; end;", 5, 3);
        fault("do 1; do 100; end; end; do 200; end;", 5, 9);
        fault("piece 9; do 100; end;", 5, 6);
        fine("mark 9999; write 0 1234;");
    }

    private static long told(String expression) {
        return Check.deskOf("mark " + expression + ";").record(0, 1, 1);
    }

    private static void expressions() {
        check.due("1+2*3", told("1+2*3"), 7);
        check.due("(1+2)*3", told("(1+2)*3"), 9);
        check.due("10-3-2", told("10-3-2"), 5);
        check.due("100/7/2", told("100/7/2"), 7);
        check.due("100%7*3", told("100%7*3"), 6);
        check.due("2*7%4", told("2*7%4"), 2);
        check.due("(0-7)/2", told("(0-7)/2"), -3);
        check.due("(0-7)%2", told("(0-7)%2"), -1);
        check.due("7%(0-2)", told("7%(0-2)"), 1);
        check.due("7/0", told("7/0"), 0);
        check.due("7%0", told("7%0"), 0);
        check.due("1+7/0*5", told("1+7/0*5"), 1);
        check.due("wraps", told("9999*9999*9999"), 9999 * 9999 * 9999);
        String least = "(8192*8192*32)";
        check.due("least", told(least), Integer.MIN_VALUE);
        check.due("least/-1", told(least + "/(0-1)"), Integer.MIN_VALUE);
        check.due("least%-1", told(least + "%(0-1)"), 0);
        check.due("greatest+1", told("0-1-" + least + "+1"), Integer.MIN_VALUE);
        check.due("deep", told("((((((1+1)*2)+1)*2)+1)*2)"), 22);
    }

    private static void words() {
        check.due("i without", told("i"), 0);
        check.due("j without", told("j"), 0);
        check.due("place", Check.deskOf("fill; write 0 1; mark place;").record(0, 2, 1), 1);
        check.due("line", told("line"), 0);
        check.due("copies", Check.deskOf("copy; copy; mark copies;").record(0, 1, 1), 2);
        check.due("told without", told("told"), 0);
        check.due("told of a refused write", Check.deskOf("write 9 1; mark told;").record(0, 1, 1), -1);
        check.due("told of a write", Check.deskOf("write 0 7; mark told;").record(0, 2, 1), 1);
        check.due("told of true", Check.deskOf("copy; take 0 0; mark told;").record(0, 1, 1), 1);
        check.due("told of false", Check.deskOf("take 0 0; mark told;").record(0, 1, 1), 0);
        check.due("told of fill", Check.deskOf("mark 1; fill; mark told;").record(0, 5, 1), 3);
        check.due("told over rounds", Check.deskOf("do 2; mark told; end;").record(0, 2, 1), 1);
        check.due("told behind a do of none", Check.deskOf("mark 5; do 0; fill; end; mark told;").record(0, 2, 1), 1);
        RestoreDesk desk = Check.deskOf("mark 1;");
        check.due("told is of this text", Check.read(desk, "mark told;"), 0);
        check.due("told is of this text", desk.record(0, 1, 1), 0);
        RestoreDesk other = Check.deskOf("pages 1; copy; take 0 0; close 0; restore 0 0 0; mark line; restore 0 1 1; write 0 line * 10 + place;");
        check.due("line that goes on", other.record(2, 1, 1), 1);
        check.due("line and place", other.value(2, 2), 21);
    }

    private static void rounds() {
        RestoreDesk desk = Check.deskOf("do 2; do 3; do 2; mark i + 10 * j; end; end; mark i + 100 * (j + 1); end;");
        int[] marks = {0, 1, 10, 11, 20, 21, 100, 0, 1, 10, 11, 20, 21, 101};
        check.due("marks", desk.count(14), marks.length);
        for (int n = 0; n < marks.length; n++) {
            check.due("mark " + n, desk.record(0, n + 1, 1), marks[n]);
        }
        check.due("tells", desk.count(11), marks.length);
        check.due("rounds of none", Check.deskOf("do 0; fill; do 5; fill; end; end; fill;").count(11), 1);
        check.due("empty rounds", Check.deskOf("do 99; do 99; do 99; end; end; end; fill;").count(11), 1);
        check.due("rounds with a do of none", Check.deskOf("do 99; do 99; do 0; fill; end; end; mark 1; end;").count(11), 99);
        check.due("300 tells", Check.deskOf("do 99; do 99; fill; end; end;").count(11), 300);
        check.due("299 tells", Check.deskOf("do 99; fill; fill; fill; end; fill; fill;").count(11), 299);
        RestoreDesk most = Check.deskOf("do 99; fill; fill; fill; end; fill; fill; mark 1; mark 2;");
        check.due("300 tells", most.count(11), 300);
        check.due("the 300th", most.count(14), 1);
        check.due("an empty text", Check.deskOf("").count(11), 0);
        check.due("i behind a do", Check.deskOf("do 3; mark 1; end; mark i;").record(0, 4, 1), 0);
        check.due("i behind an inner do", Check.deskOf("do 2; do 3; mark 1; end; mark i; end;").record(0, 8, 1), 1);
    }

    private static void tellsAreCalls() {
        RestoreDesk desk = Check.deskOf("pages 2; piece 2; write 0 5; add 0 2; mark 9; copy; take 0 0; take 0 1;"
            + " close 0; upon 0; take 1 1; close 1; write 1 4; lose 0 0; restore 1 0 3; fill;");
        check.due("written and added", desk.page(0, 0, 4), 7);
        check.due("a mark", desk.record(0, 3, 0), 2);
        check.due("copies", desk.count(6), 2);
        check.due("upon", desk.made(1, 1), 0);
        check.due("upon none", desk.made(0, 1), -2);
        check.due("fit ones", desk.count(7), 3);
        check.due("lost", desk.piece(0, 0), 0);
        check.due("kept", desk.piece(0, 1), 1);
        check.due("a restore", desk.count(2), 2);
        check.due("its parent", desk.line(1, 1), 0);
        check.due("its fork", desk.line(1, 2), 3);
        check.due("filled", desk.record(1, 4, 0), 3);
        check.due("upon of minus one", Check.deskOf("upon 0 - 1;").made(0, 1), -2);
        check.due("upon of no such one", Check.deskOf("upon 0;").count(6), 0);
        check.due("an open one", Check.deskOf("copy;").count(12), 1);
    }

    private static void faultsChangeNothing() {
        RestoreDesk desk = Check.deskOf("pages 2; piece 3; write 0 5; mark 2;");
        desk.hold(1);
        check.due("a text with a fault", Check.read(desk, "pages 3; fill"), 1);
        check.due("its place", desk.place(), 13);
        check.due("the tape", desk.count(8), 0);
        check.due("pages", desk.count(0), 2);
        check.due("size", desk.count(1), 3);
        check.due("place", desk.count(4), 2);
        check.due("slots", desk.count(10), 1);
        check.due("tells", desk.count(11), 2);
        check.due("a text with wrong numbers", Check.read(desk, "pages 9; fill;"), 5);
        check.due("its place", desk.place(), 6);
        check.due("pages", desk.count(0), 2);
        check.due("a text", Check.read(desk, "mark 4; mark 5; mark 6;"), 0);
        check.due("place without a fault", desk.place(), -1);
        check.due("a new store", desk.count(5), 3);
        check.due("its pages", desk.page(0, 0, 1), 0);
        check.due("slots hold nothing", desk.count(10), 0);
        check.due("nothing is held", desk.again(1), false);
        RestoreDesk more = Check.deskOf("pages 1; piece 2; fill; mark 1; fill; copy; take 0 0; close 0; restore 0 0 2; mark 2; mark 3;");
        check.due("lines ahead", more.count(2), 2);
        Check.read(more, "");
        check.due("lines of a new store", more.count(2), 1);
        check.due("copies of a new store", more.count(6), 0);
        check.due("kept pieces of a new store", more.count(9), 0);
        check.due("marks of a new store", more.count(14), 0);
        check.due("open copies of a new store", more.count(12), 0);
        more.mark(1);
        check.due("a piece of a new store", more.piece(0, 0), 0);
    }
}
