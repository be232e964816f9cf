import java.util.ArrayList;
import java.util.HashMap;
import java.util.List;
import java.util.Map;
import java.util.TreeSet;

/**
 * The document once more, word by word and without regard to speed: every question is answered by
 * trying all places, pieces and copies. It shares nothing with RestoreDesk but the document.
 */
final class SlowDesk {
    static final class Rec {
        final int sort;
        final int about;
        final int much;
        final int line;

        Rec(int sort, int about, int much, int line) {
            this.sort = sort;
            this.about = about;
            this.much = much;
            this.line = line;
        }

        boolean changes(int page) {
            return sort < 2 && about == page;
        }
    }

    static final class Line {
        final int parent;
        final int fork;
        final List<Rec> all = new ArrayList<>();
        final Map<Integer, Integer> kept = new HashMap<>();

        Line(int parent, int fork, List<Rec> inherited) {
            this.parent = parent;
            this.fork = fork;
            all.addAll(inherited);
        }

        Line(Line other) {
            this(other.parent, other.fork, other.all);
            kept.putAll(other.kept);
        }
    }

    static final class Taken {
        final int line;
        final int place;
        final int value;

        Taken(int line, int place, int value) {
            this.line = line;
            this.place = place;
            this.value = value;
        }
    }

    static final class Copy {
        final int line;
        final int upon;
        boolean open = true;
        boolean dropped;
        final Map<Integer, Taken> pages = new HashMap<>();

        Copy(int line, int upon) {
            this.line = line;
            this.upon = upon;
        }

        Copy(Copy other) {
            this(other.line, other.upon);
            open = other.open;
            dropped = other.dropped;
            pages.putAll(other.pages);
        }
    }

    static final class State {
        int pages = 4;
        int size = 4;
        int made;
        int goes;
        final List<Line> lines = new ArrayList<>();
        final List<Copy> copies = new ArrayList<>();

        State() {
            lines.add(new Line(-2, -2, List.of()));
        }

        State(State other) {
            pages = other.pages;
            size = other.size;
            made = other.made;
            goes = other.goes;
            other.lines.forEach(line -> lines.add(new Line(line)));
            other.copies.forEach(copy -> copies.add(new Copy(copy)));
        }
    }

    private State s = new State();
    private final State[] slots = new State[3];
    private StringBuilder tape = new StringBuilder();
    private int faultPlace = -1;
    private int tells;

    // ---- the tape

    int feed(int a, int b, int c, int d, int e) {
        if (tape.length() > 1980) {
            return -1;
        }
        for (int four : new int[] {a, b, c, d, e}) {
            tape.append((char) (four >>> 24)).append((char) (four >>> 16 & 255))
                .append((char) (four >>> 8 & 255)).append((char) (four & 255));
        }
        return tape.length();
    }

    int back(int n) {
        if (n < 0 || n > tape.length()) {
            return -1;
        }
        tape.setLength(tape.length() - n);
        return tape.length();
    }

    int read() {
        String text = tape.toString();
        tape = new StringBuilder();
        faultPlace = -1;
        SlowText parsed;
        try {
            parsed = SlowText.parse(text);
        } catch (SlowText.Fault fault) {
            faultPlace = fault.place;
            return fault.number;
        }
        s = new State();
        s.pages = parsed.pages;
        s.size = parsed.size;
        for (int slot = 0; slot < 3; slot++) {
            slots[slot] = null;
        }
        tells = 0;
        told = 0;
        run(parsed.tells, 0, 0);
        return 0;
    }

    private int told;

    private void run(List<SlowText.Tell> list, int i, int j) {
        for (SlowText.Tell tell : list) {
            if (tells >= 300) {
                return;
            }
            if (tell.word.equals("do")) {
                for (int round = 0; round < tell.rounds; round++) {
                    run(tell.inner, round, i);
                }
                continue;
            }
            int[] n = new int[3];
            for (int k = 0; k < tell.numbers.size(); k++) {
                n[k] = tell.numbers.get(k).value(Map.of("i", i, "j", j, "place", here(), "line", s.goes,
                    "copies", s.copies.size(), "told", told));
            }
            told = call(tell.word, n[0], n[1], n[2]);
            tells++;
        }
    }

    private int call(String word, int a, int b, int c) {
        switch (word) {
            case "write": return write(a, b);
            case "add": return add(a, b);
            case "mark": return mark(a);
            case "fill": return fill();
            case "copy": return copy(-1);
            case "upon": return copy(a);
            case "take": return take(a, b) ? 1 : 0;
            case "close": return close(a) ? 1 : 0;
            case "restore": return restore(a, b, c);
            case "lose": return lose(a, b) ? 1 : 0;
            default: throw new IllegalStateException(word);
        }
    }

    int place() {
        return faultPlace;
    }

    // ---- what happens

    private int here() {
        return tip(s.goes);
    }

    private int tip(int line) {
        return s.lines.get(line).all.size();
    }

    private boolean noLine(int line) {
        return line < 0 || line >= s.lines.size();
    }

    private boolean noPlace(int line, int place) {
        return noLine(line) || place < 0 || place > tip(line);
    }

    private boolean noPage(int page) {
        return page < 0 || page >= s.pages;
    }

    private boolean noCopy(int copy) {
        return copy < 0 || copy >= s.copies.size();
    }

    private int come(int sort, int about, int much) {
        if (here() == 240 || s.made == 600) {
            return -1;
        }
        Line line = s.lines.get(s.goes);
        line.all.add(new Rec(sort, about, much, s.goes));
        s.made++;
        for (int piece : pieces(s.goes)) {
            if ((piece + 1) * s.size == here()) {
                line.kept.put(piece, 1);
            }
        }
        return here();
    }

    int write(int page, int value) {
        return noPage(page) ? -1 : come(0, page, value);
    }

    int add(int page, int much) {
        return noPage(page) ? -1 : come(1, page, much);
    }

    int mark(int number) {
        return come(2, number, 0);
    }

    int fill() {
        int want = here();
        while (want % s.size != 0) {
            want++;
        }
        int many = want - here();
        if (many > 0 && (want > 240 || s.made + many > 600)) {
            return -1;
        }
        for (int n = 0; n < many; n++) {
            come(3, -2, 0);
        }
        return many;
    }

    int copy(int upon) {
        if (s.copies.size() == 10 || upon != -1 && noCopy(upon)) {
            return -1;
        }
        s.copies.add(new Copy(s.goes, upon == -1 ? -2 : upon));
        return s.copies.size() - 1;
    }

    boolean take(int copy, int page) {
        if (noCopy(copy) || noPage(page) || !s.copies.get(copy).open || s.copies.get(copy).line != s.goes) {
            return false;
        }
        s.copies.get(copy).pages.put(page, new Taken(s.goes, here(), page(page, s.goes, here())));
        return true;
    }

    boolean close(int copy) {
        if (noCopy(copy) || !s.copies.get(copy).open) {
            return false;
        }
        s.copies.get(copy).open = false;
        return true;
    }

    int combine(int copy) {
        if (noCopy(copy) || !fit(copy) || s.copies.size() == 10) {
            return -1;
        }
        Copy made = new Copy(s.copies.get(copy).line, -2);
        made.open = false;
        for (int page = 0; page < s.pages; page++) {
            made.pages.put(page, pageOf(copy, page));
        }
        s.copies.add(made);
        return s.copies.size() - 1;
    }

    boolean drop(int copy) {
        if (noCopy(copy) || s.copies.get(copy).open || s.copies.get(copy).dropped) {
            return false;
        }
        for (Copy other : s.copies) {
            if (other.upon == copy && !other.dropped) {
                return false;
            }
        }
        s.copies.get(copy).dropped = true;
        return true;
    }

    int restore(int copy, int line, int place) {
        if (s.lines.size() == 8) {
            return 1;
        }
        int outcome = would(copy, line, place);
        if (outcome == 0) {
            s.lines.add(new Line(line, place, s.lines.get(line).all.subList(0, place)));
            s.goes = s.lines.size() - 1;
        }
        return outcome;
    }

    boolean lose(int line, int piece) {
        return !noLine(line) && s.lines.get(line).kept.remove(piece) != null;
    }

    boolean twice(int line, int piece, boolean alike) {
        int due = alike ? 2 : 3;
        if (noLine(line) || !s.lines.get(line).kept.containsKey(piece)
                || s.lines.get(line).kept.get(piece) == due) {
            return false;
        }
        s.lines.get(line).kept.put(piece, due);
        return true;
    }

    // ---- terms

    private List<Integer> wayOf(int line) {
        List<Integer> way = new ArrayList<>();
        for (int at = line; at >= 0; at = s.lines.get(at).parent) {
            way.add(at);
        }
        return way;
    }

    private int pieceWith(int place) {
        int piece = 0;
        while ((piece + 1) * s.size < place) {
            piece++;
        }
        return piece;
    }

    private int firstPiece(int line) {
        return line == 0 ? 0 : pieceWith(s.lines.get(line).fork + 1);
    }

    private List<Integer> pieces(int line) {
        List<Integer> found = new ArrayList<>();
        if (tip(line) > 0) {
            for (int piece = firstPiece(line); piece <= pieceWith(tip(line)); piece++) {
                found.add(piece);
            }
        }
        return found;
    }

    private boolean atHand(int line, int piece) {
        return s.lines.get(line).kept.containsKey(piece)
            || line == s.goes && pieces(line).contains(piece) && (piece + 1) * s.size > tip(line);
    }

    private Taken pageOf(int copy, int page) {
        for (int at = copy; at >= 0; at = s.copies.get(at).upon) {
            if (s.copies.get(at).pages.containsKey(page)) {
                return s.copies.get(at).pages.get(page);
            }
        }
        return null;
    }

    private boolean fit(int copy) {
        for (int at = copy; at >= 0; at = s.copies.get(at).upon) {
            if (s.copies.get(at).open || s.copies.get(at).dropped) {
                return false;
            }
        }
        for (int page = 0; page < s.pages; page++) {
            if (pageOf(copy, page) == null) {
                return false;
            }
        }
        return true;
    }

    private boolean branch(Taken taken, int line) {
        List<Integer> way = wayOf(line);
        int at = way.indexOf(taken.line);
        if (at < 0) {
            return true;
        }
        for (int ahead : way.subList(0, at)) {
            if (taken.place > s.lines.get(ahead).fork) {
                return true;
            }
        }
        return false;
    }

    /** The places of the records that a restore needs. */
    private List<Integer> needed(int copy, int line, int place) {
        List<Integer> found = new ArrayList<>();
        for (int at = 1; at <= place; at++) {
            if (!found.isEmpty() || behind(copy, line, at)) {
                found.add(at);
            }
        }
        return found;
    }

    private boolean behind(int copy, int line, int at) {
        Rec rec = s.lines.get(line).all.get(at - 1);
        for (int page = 0; page < s.pages; page++) {
            if (rec.changes(page) && at > pageOf(copy, page).place) {
                return true;
            }
        }
        return false;
    }

    /** The line of each piece number that a restore needs. */
    private int lineOfPiece(int line, int piece) {
        for (int at : wayOf(line)) {
            if (firstPiece(at) <= piece) {
                return at;
            }
        }
        throw new IllegalStateException();
    }

    private TreeSet<Integer> neededPieces(int copy, int line, int place) {
        TreeSet<Integer> found = new TreeSet<>();
        needed(copy, line, place).forEach(at -> found.add(pieceWith(at)));
        return found;
    }

    private int[] outcome(int copy, int line, int place) {
        if (noCopy(copy) || noPlace(line, place) || !fit(copy)) {
            return new int[] {1};
        }
        for (int page = 0; page < s.pages; page++) {
            if (branch(pageOf(copy, page), line)) {
                return new int[] {2};
            }
        }
        for (int page = 0; page < s.pages; page++) {
            if (pageOf(copy, page).place > place) {
                return new int[] {3};
            }
        }
        for (int piece : neededPieces(copy, line, place)) {
            int of = lineOfPiece(line, piece);
            if (!atHand(of, piece)) {
                return new int[] {4, of, piece};
            }
            if (s.lines.get(of).kept.getOrDefault(piece, 0) == 3) {
                return new int[] {5, of, piece};
            }
        }
        return new int[] {0};
    }

    private boolean weighed(int outcome) {
        return outcome == 0 || outcome > 3;
    }

    // ---- what each moment was

    int page(int page, int line, int place) {
        if (noPage(page) || noPlace(line, place)) {
            return 0;
        }
        int value = 0;
        for (Rec rec : s.lines.get(line).all.subList(0, place)) {
            if (rec.changes(page)) {
                value = rec.sort == 0 ? rec.much : value + rec.much;
            }
        }
        return value;
    }

    int record(int line, int place, int what) {
        if (noPlace(line, place) || place == 0 || what < 0 || what > 2) {
            return -1000000000;
        }
        Rec rec = s.lines.get(line).all.get(place - 1);
        return what == 0 ? rec.sort : what == 1 ? rec.about : rec.line;
    }

    int value(int line, int place) {
        return noPlace(line, place) || place == 0 ? 0 : s.lines.get(line).all.get(place - 1).much;
    }

    int line(int line, int what) {
        if (noLine(line)) {
            return -1;
        }
        Line found = s.lines.get(line);
        return what == 0 ? found.all.size() : what == 1 ? found.parent : what == 2 ? found.fork
            : what == 3 ? wayOf(line).size() : what == 4 ? firstPiece(line) : -1;
    }

    int piece(int line, int piece) {
        if (noLine(line) || !pieces(line).contains(piece)) {
            return -1;
        }
        return s.lines.get(line).kept.getOrDefault(piece, 0);
    }

    int made(int copy, int what) {
        if (noCopy(copy)) {
            return -1;
        }
        Copy found = s.copies.get(copy);
        int own = 0;
        int all = 0;
        for (int page = 0; page < s.pages; page++) {
            own |= found.pages.containsKey(page) ? 1 << page : 0;
            all |= pageOf(copy, page) != null ? 1 << page : 0;
        }
        int chain = 0;
        for (int at = copy; at >= 0; at = s.copies.get(at).upon) {
            chain++;
        }
        int[] answers = {found.line, found.upon, found.open ? 1 : 0, own, all, fit(copy) ? 1 : 0, chain,
            found.dropped ? 1 : 0};
        return what < 0 || what > 7 ? -1 : answers[what];
    }

    int source(int copy, int page) {
        return noCopy(copy) || noPage(page) ? -1 : pageOf(copy, page) == null ? -2 : pageOf(copy, page).line;
    }

    int taken(int copy, int page) {
        return noCopy(copy) || noPage(page) ? -1 : pageOf(copy, page) == null ? -2 : pageOf(copy, page).place;
    }

    int held(int copy, int page) {
        return noCopy(copy) || noPage(page) || pageOf(copy, page) == null ? 0 : pageOf(copy, page).value;
    }

    // ---- what would be

    int would(int copy, int line, int place) {
        return outcome(copy, line, place)[0];
    }

    int named(int copy, int line, int place, int i) {
        int[] outcome = outcome(copy, line, place);
        String[] names = {"ok", "none", "branch", "early"};
        String name = outcome[0] < 4 ? names[outcome[0]] : "t" + outcome[1] + "p" + outcome[2];
        return i < 0 || i >= name.length() ? -1 : name.charAt(i);
    }

    int needs(int copy, int line, int place, int what) {
        if (!weighed(would(copy, line, place)) || what < 0 || what > 3) {
            return -1;
        }
        List<Integer> records = needed(copy, line, place);
        if (what == 0) {
            return records.size();
        }
        if (records.isEmpty()) {
            return -2;
        }
        TreeSet<Integer> pieces = neededPieces(copy, line, place);
        return what == 1 ? records.get(0) : what == 2 ? pieces.first() : pieces.last();
    }

    int best(int line, int place) {
        if (noPlace(line, place)) {
            return -1;
        }
        int best = -2;
        for (int copy = s.copies.size() - 1; copy >= 0; copy--) {
            if (would(copy, line, place) == 0 && (best == -2
                    || needed(copy, line, place).size() < needed(best, line, place).size())) {
                best = copy;
            }
        }
        return best;
    }

    int pinned(int line, int piece) {
        if (noLine(line) || !pieces(line).contains(piece)) {
            return -1;
        }
        int bits = 0;
        for (int copy = 0; copy < s.copies.size(); copy++) {
            if (weighed(would(copy, s.goes, here())) && neededPieces(copy, s.goes, here()).contains(piece)
                    && lineOfPiece(s.goes, piece) == line) {
                bits += 1 << copy;
            }
        }
        return bits;
    }

    int dirty(int copy) {
        if (noCopy(copy)) {
            return -1;
        }
        int bits = 0;
        for (int page = 0; page < s.pages; page++) {
            Taken taken = pageOf(copy, page);
            boolean dirty = taken == null || branch(taken, s.goes);
            for (int at = dirty ? here() : taken.place; at < here(); at++) {
                dirty |= s.lines.get(s.goes).all.get(at).changes(page);
            }
            bits += dirty ? 1 << page : 0;
        }
        return bits;
    }

    int common(int line, int other) {
        if (noLine(line) || noLine(other)) {
            return -1;
        }
        int same = 0;
        while (same < tip(line) && same < tip(other)
                && s.lines.get(line).all.get(same) == s.lines.get(other).all.get(same)) {
            same++;
        }
        return same;
    }

    int gaps(int line, int what) {
        if (noLine(line) || what != 0 && what != 1) {
            return -1;
        }
        List<Integer> gaps = new ArrayList<>();
        for (int piece = 0; tip(line) > 0 && piece <= pieceWith(tip(line)); piece++) {
            for (int at : wayOf(line)) {
                if (pieces(at).contains(piece)) {
                    if (!atHand(at, piece)) {
                        gaps.add(piece);
                    }
                    break;
                }
            }
        }
        return what == 0 ? gaps.size() : gaps.isEmpty() ? -2 : gaps.get(0);
    }

    int stop(int line, int number, boolean after) {
        if (noLine(line)) {
            return -1;
        }
        int found = -2;
        for (int at = 1; at <= tip(line); at++) {
            Rec rec = s.lines.get(line).all.get(at - 1);
            if (rec.sort == 2 && rec.about == number) {
                found = after ? at : at - 1;
            }
        }
        return found;
    }

    private List<Integer> windowOf(int copy, int line) {
        List<Integer> places = new ArrayList<>();
        for (int place = 0; place <= tip(line); place++) {
            if (would(copy, line, place) == 0) {
                places.add(place);
            }
        }
        return places;
    }

    int window(int copy, int line, int what) {
        if (noCopy(copy) || noLine(line) || what < 0 || what > 2) {
            return -1;
        }
        List<Integer> places = windowOf(copy, line);
        return what == 0 ? places.size() : places.isEmpty() ? -2
            : places.get(what == 1 ? 0 : places.size() - 1);
    }

    private TreeSet<Integer> reached(int line) {
        TreeSet<Integer> places = new TreeSet<>();
        for (int copy = 0; copy < s.copies.size(); copy++) {
            places.addAll(windowOf(copy, line));
        }
        return places;
    }

    int reach(int line) {
        return noLine(line) ? -1 : reached(line).size();
    }

    int spare() {
        int many = 0;
        for (int line = 0; line < s.lines.size(); line++) {
            for (int piece : s.lines.get(line).kept.keySet()) {
                many += pinned(line, piece) == 0 ? 1 : 0;
            }
        }
        return many;
    }

    int hurts(int line, int piece) {
        if (noLine(line) || !s.lines.get(line).kept.containsKey(piece)) {
            return -1;
        }
        int with = reach(s.goes);
        State kept = s;
        s = new State(kept);
        lose(line, piece);
        int without = reach(s.goes);
        s = kept;
        return with - without;
    }

    int newest(int line) {
        return noLine(line) ? -1 : reached(line).isEmpty() ? -2 : reached(line).last();
    }

    int age(int copy) {
        if (noCopy(copy) || !fit(copy)) {
            return -1000;
        }
        int greatest = 0;
        for (int page = 0; page < s.pages; page++) {
            greatest = Math.max(greatest, pageOf(copy, page).place);
        }
        return here() - greatest;
    }

    int work(int copy, int line, int place) {
        if (!weighed(would(copy, line, place))) {
            return -1;
        }
        int many = 0;
        for (int at : needed(copy, line, place)) {
            many += behind(copy, line, at) ? 1 : 0;
        }
        return many;
    }

    int differ(int line, int place, int other, int there) {
        if (noPlace(line, place) || noPlace(other, there)) {
            return -1;
        }
        int bits = 0;
        for (int page = 0; page < s.pages; page++) {
            bits += page(page, line, place) != page(page, other, there) ? 1 << page : 0;
        }
        return bits;
    }

    int last(int page, int line, int place) {
        if (noPage(page) || noPlace(line, place)) {
            return -1;
        }
        int found = 0;
        for (int at = 1; at <= place; at++) {
            found = s.lines.get(line).all.get(at - 1).changes(page) ? at : found;
        }
        return found;
    }

    int way(int line, int i) {
        return noLine(line) || i < 0 || i >= wayOf(line).size() ? -1 : wayOf(line).get(i);
    }

    int where(int number, int what) {
        if (what < 0 || what > 2) {
            return -1;
        }
        int many = 0;
        int first = -2;
        int place = -2;
        for (int line = 0; line < s.lines.size(); line++) {
            for (int at = 1; at <= tip(line); at++) {
                Rec rec = s.lines.get(line).all.get(at - 1);
                if (rec.line == line && rec.sort == 2 && rec.about == number) {
                    if (many == 0) {
                        first = line;
                        place = at;
                    }
                    many++;
                }
            }
        }
        return what == 0 ? many : what == 1 ? first : place;
    }

    int busiest(int line, int what) {
        if (noLine(line) || what != 0 && what != 1) {
            return -1;
        }
        int[] many = new int[8];
        for (Rec rec : s.lines.get(line).all) {
            if (rec.sort < 2) {
                many[rec.about]++;
            }
        }
        int best = 0;
        for (int page = 0; page < s.pages; page++) {
            best = many[page] > many[best] ? page : best;
        }
        return what == 0 ? best : many[best];
    }

    boolean hold(int slot) {
        if (slot < 0 || slot > 2) {
            return false;
        }
        slots[slot] = new State(s);
        return true;
    }

    boolean again(int slot) {
        if (slot < 0 || slot > 2 || slots[slot] == null) {
            return false;
        }
        s = new State(slots[slot]);
        return true;
    }

    int count(int what) {
        int fits = 0;
        int opens = 0;
        int drops = 0;
        for (int copy = 0; copy < s.copies.size(); copy++) {
            fits += fit(copy) ? 1 << copy : 0;
            opens += s.copies.get(copy).open ? 1 << copy : 0;
            drops += s.copies.get(copy).dropped ? 1 << copy : 0;
        }
        int kept = 0;
        int marks = 0;
        int parents = 0;
        for (int line = 0; line < s.lines.size(); line++) {
            kept += s.lines.get(line).kept.size();
            for (Rec rec : s.lines.get(line).all) {
                marks += rec.line == line && rec.sort == 2 ? 1 : 0;
            }
            if (line > 0) {
                parents |= 1 << s.lines.get(line).parent;
            }
        }
        int held = 0;
        for (State slot : slots) {
            held += slot != null ? 1 : 0;
        }
        int[] answers = {s.pages, s.size, s.lines.size(), s.goes, here(), s.made, s.copies.size(), fits,
            tape.length(), kept, held, tells, opens, drops, marks, parents};
        return what < 0 || what >= answers.length ? -1 : answers[what];
    }
}
