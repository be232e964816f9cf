import java.util.function.Supplier;

/**
 * All that can be asked of a desk, as a text with a line for each answer. The document lets an object be
 * used for 512 calls, so a desk is made anew behind some of them. The tape and place() are not in it.
 */
final class Picture {
    private static final int CALLS = 300;

    private final Supplier<RestoreDesk> made;
    private final StringBuilder text = new StringBuilder();
    private RestoreDesk desk;
    private int left;

    private Picture(Supplier<RestoreDesk> made) {
        this.made = made;
    }

    static String of(Supplier<RestoreDesk> made) {
        Picture picture = new Picture(made);
        picture.store();
        picture.slots();
        return picture.text.toString();
    }

    private RestoreDesk ask() {
        if (left == 0) {
            desk = made.get();
            left = CALLS;
        }
        left--;
        return desk;
    }

    private void note(String call, long answer, int... arguments) {
        text.append(call);
        for (int argument : arguments) {
            text.append(' ').append(argument);
        }
        text.append(": ").append(answer).append('\n');
    }

    private void store() {
        for (int what = -1; what <= 16; what++) {
            if (what != 8) {
                note("count", ask().count(what), what);
            }
        }
        note("spare", ask().spare());
        for (int number = -2; number <= 9; number++) {
            for (int what = -1; what <= 3; what++) {
                note("where", ask().where(number, what), number, what);
            }
        }
        int lines = ask().count(2);
        for (int line = -1; line <= lines; line++) {
            line(line, lines);
        }
        int copies = ask().count(6);
        for (int copy = -1; copy <= copies; copy++) {
            copy(copy);
            for (int line = -1; line <= lines; line++) {
                restores(copy, line);
            }
        }
    }

    private void line(int line, int lines) {
        for (int what = -1; what <= 5; what++) {
            note("line", ask().line(line, what), line, what);
            note("gaps", ask().gaps(line, what), line, what);
            note("busiest", ask().busiest(line, what), line, what);
        }
        note("reach", ask().reach(line), line);
        note("newest", ask().newest(line), line);
        for (int other = -1; other <= lines; other++) {
            note("common", ask().common(line, other), line, other);
            note("way", ask().way(line, other), line, other);
        }
        for (int number = -2; number <= 9; number++) {
            note("stop after", ask().stop(line, number, true), line, number);
            note("stop before", ask().stop(line, number, false), line, number);
        }
        int tip = Math.max(0, ask().line(line, 0));
        for (int place = -1; place <= tip + 1; place++) {
            moment(line, place);
        }
        int end = tip / ask().count(1) + 1;
        for (int piece = -1; piece <= end; piece++) {
            note("piece", ask().piece(line, piece), line, piece);
            note("pinned", ask().pinned(line, piece), line, piece);
            note("hurts", ask().hurts(line, piece), line, piece);
        }
    }

    private void moment(int line, int place) {
        for (int what = -1; what <= 3; what++) {
            note("record", ask().record(line, place, what), line, place, what);
        }
        note("value", ask().value(line, place), line, place);
        note("best", ask().best(line, place), line, place);
        int pages = ask().count(0);
        for (int page = -1; page <= pages; page++) {
            note("page", ask().page(page, line, place), page, line, place);
            note("last", ask().last(page, line, place), page, line, place);
        }
        int going = ask().count(3);
        int now = ask().count(4);
        note("differ", ask().differ(line, place, going, now), line, place, going, now);
    }

    private void copy(int copy) {
        for (int what = -1; what <= 8; what++) {
            note("made", ask().made(copy, what), copy, what);
        }
        note("dirty", ask().dirty(copy), copy);
        note("age", ask().age(copy), copy);
        int pages = ask().count(0);
        for (int page = -1; page <= pages; page++) {
            note("source", ask().source(copy, page), copy, page);
            note("taken", ask().taken(copy, page), copy, page);
            note("held", ask().held(copy, page), copy, page);
        }
    }

    private void restores(int copy, int line) {
        for (int what = -1; what <= 3; what++) {
            note("window", ask().window(copy, line, what), copy, line, what);
        }
        int tip = Math.max(0, ask().line(line, 0));
        for (int place = -1; place <= tip + 1; place++) {
            note("would", ask().would(copy, line, place), copy, line, place);
            note("work", ask().work(copy, line, place), copy, line, place);
            for (int what = -1; what <= 4; what++) {
                note("needs", ask().needs(copy, line, place, what), copy, line, place, what);
            }
            for (int i = -1; i <= 6; i++) {
                note("named", ask().named(copy, line, place, i), copy, line, place, i);
            }
        }
    }

    private void slots() {
        for (int slot = 0; slot < 3; slot++) {
            boolean held = made.get().again(slot);
            note("again", Check.bit(held), slot);
            if (held) {
                int chosen = slot;
                Picture inner = new Picture(() -> {
                    RestoreDesk again = made.get();
                    again.again(chosen);
                    return again;
                });
                inner.store();
                text.append(inner.text);
            }
        }
    }
}
