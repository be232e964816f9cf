/** Promises 48 to 50: what is held, and the counts. */
public final class SlotTest {
    private static final Check check = new Check("SlotTest");

    public static void main(String[] args) {
        wrongSlots();
        goesOn();
        slotsAreApart();
        theTapeIsNotHeld();
        counts();
        check.end();
    }

    private static void wrongSlots() {
        RestoreDesk desk = new RestoreDesk();
        int[] wrong = {-1, 3, Integer.MAX_VALUE, Integer.MIN_VALUE, 32};
        for (int slot : wrong) {
            check.due("hold " + slot, desk.hold(slot), false);
            check.due("again " + slot, desk.again(slot), false);
        }
        for (int slot = 0; slot < 3; slot++) {
            check.due("nothing is held", desk.again(slot), false);
            check.due("hold", desk.hold(slot), true);
            check.due("slots", desk.count(10), slot + 1);
            check.due("again", desk.again(slot), true);
        }
    }

    private static void goesOn() {
        RestoreDesk desk = Check.deskOf("pages 2; piece 2; copy; take 0 0; take 0 1; close 0; write 0 1; write 1 2;");
        desk.hold(0);
        desk.write(0, 3);
        desk.copy(0);
        desk.take(1, 0);
        desk.mark(4);
        desk.lose(0, 0);
        desk.twice(0, 1, false);
        desk.close(1);
        desk.restore(1, 0, 3);
        desk.drop(1);
        check.due("again", desk.again(0), true);
        int[] counts = {2, 2, 1, 0, 2, 2, 1, 1, 0, 1, 1, 6, 0, 0, 0, 0};
        for (int what = 0; what < counts.length; what++) {
            check.due("count " + what + " once more", desk.count(what), counts[what]);
        }
        check.due("piece 0", desk.piece(0, 0), 1);
        check.due("piece 1", desk.piece(0, 1), -1);
        check.due("page 0", desk.page(0, 0, 2), 1);
        check.due("it goes on", desk.write(0, 9), 3);
        check.due("piece 1 fills up", desk.piece(0, 1), 0);
        check.due("copy", desk.copy(-1), 1);
        check.due("upon none", desk.made(1, 1), -2);
        check.due("it has no pages", desk.made(1, 3), 0);
        check.due("it stays there", desk.again(0), true);
        check.due("place", desk.count(4), 2);
        check.due("restore", desk.restore(0, 0, 1), 0);
        check.due("no piece of line 1 is kept", desk.piece(1, 0), 0);
    }

    private static void slotsAreApart() {
        RestoreDesk desk = new RestoreDesk();
        desk.hold(0);
        desk.write(0, 1);
        desk.hold(1);
        desk.write(0, 2);
        desk.hold(2);
        desk.again(0);
        check.due("slot 0", desk.count(4), 0);
        desk.again(2);
        check.due("slot 2", desk.page(0, 0, 2), 2);
        desk.again(1);
        check.due("slot 1", desk.page(0, 0, 1), 1);
        desk.write(0, 7);
        desk.hold(0);
        desk.again(2);
        check.due("slot 2 once more", desk.page(0, 0, 2), 2);
        desk.again(0);
        check.due("slot 0 held anew", desk.page(0, 0, 2), 7);
        check.due("slots", desk.count(10), 3);
    }

    private static void theTapeIsNotHeld() {
        RestoreDesk desk = new RestoreDesk();
        desk.hold(0);
        Check.put(desk, "pages 9;");
        desk.again(0);
        check.due("the tape", desk.count(8), 8);
        check.due("read", desk.read(), 5);
        desk.again(0);
        check.due("the latest read's fault", desk.place(), 6);
        check.due("read of nothing", desk.read(), 0);
        check.due("slots hold nothing", desk.count(10), 0);
        check.due("again", desk.again(0), false);
        desk.hold(1);
        check.due("slots", desk.count(10), 1);
    }

    private static void counts() {
        RestoreDesk desk = Check.deskOf("pages 3; piece 2; copy; take 0 0; take 0 1; take 0 2; close 0; mark 1; write 1 1; mark 1;"
            + " restore 0 0 2; mark 2; mark 2; restore 0 1 1; upon 0; close 1; copy; copy;");
        desk.drop(1);
        desk.hold(2);
        desk.feed(0, 0, 0, 0, 0);
        int[] due = {3, 2, 3, 2, 1, 5, 4, 1, 20, 2, 1, 16, 12, 2, 4, 3};
        for (int what = 0; what < due.length; what++) {
            check.due("count " + what, desk.count(what), due[what]);
        }
        check.due("count 16", desk.count(16), -1);
        check.due("count -1", desk.count(-1), -1);
    }
}
