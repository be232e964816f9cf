import java.util.Arrays;

/** A store of pages that can be restored as it was at any moment. */
public final class RestoreDesk {
    public static final int NONE = -1;

    private static final int NOTHING = -2;
    private static final int NO_RECORD = -1000000000;
    private static final int NO_AGE = -1000;

    private static final int MOST_BYTES = 2000;
    private static final int FEED_BYTES = 20;
    private static final int MOST_TOKENS = 400;
    private static final int MOST_DOS = 3;
    private static final int MOST_BRACKETS = 6;
    private static final int MOST_TELLS = 300;
    private static final int MOST_STEPS = 1000000;
    private static final int MOST_PAGES = 8;
    private static final int LEAST_SIZE = 2;
    private static final int MOST_SIZE = 8;
    private static final int MOST_ROUNDS = 99;
    private static final int MOST_LINES = 8;
    private static final int MOST_PLACE = 240;
    private static final int MOST_RECORDS = 600;
    private static final int MOST_PIECES = 120;
    private static final int MOST_COPIES = 10;
    private static final int MOST_SLOTS = 3;
    private static final int USUAL_PAGES = 4;
    private static final int USUAL_SIZE = 4;

    private static final int WRITTEN = 0;
    private static final int ADDED = 1;
    private static final int MARK = 2;
    private static final int EMPTY = 3;

    private static final int NOT_KEPT = 0;
    private static final int KEPT = 1;
    private static final int ALIKE = 2;
    private static final int UNLIKE = 3;

    private static final int OUT_DONE = 0;
    private static final int OUT_NONE = 1;
    private static final int OUT_BRANCH = 2;
    private static final int OUT_EARLY = 3;
    private static final int OUT_LACKS = 4;
    private static final int OUT_UNLIKE = 5;

    private static final int FAULT_SYNTAX = 1;
    private static final int FAULT_ROOM = 2;
    private static final int FAULT_WRONG = 5;

    /** Each word stands in a column of its own; its number there is its kind of token. */
    private static final String WORDS =
        "pages   piece   write   add     mark    fill    copy    upon    take    close   restore lose    do      end     i       j       place   line    copies  told    ";
    private static final int WORD_WIDTH = 8;
    private static final int WORD_COUNT = 20;
    private static final int MOST_DIGITS = 4;
    private static final String SIGNS = ";+-*/%()";

    private static final int T_PAGES = 0;
    private static final int T_PIECE = 1;
    private static final int T_WRITE = 2;
    private static final int T_ADD = 3;
    private static final int T_MARK = 4;
    private static final int T_FILL = 5;
    private static final int T_COPY = 6;
    private static final int T_UPON = 7;
    private static final int T_TAKE = 8;
    private static final int T_CLOSE = 9;
    private static final int T_RESTORE = 10;
    private static final int T_LOSE = 11;
    private static final int T_DO = 12;
    private static final int T_END = 13;
    private static final int T_I = 14;
    private static final int T_TOLD = 19;
    private static final int T_INT = 20;
    private static final int T_SEMICOLON = 21;
    private static final int T_PLUS = 22;
    private static final int T_MINUS = 23;
    private static final int T_TIMES = 24;
    private static final int T_OVER = 25;
    private static final int T_REST = 26;
    private static final int T_OPEN = 27;
    private static final int T_SHUT = 28;
    private static final int T_TEXT_END = 29;
    private static final int T_NO_TOKEN = 30;

    /** How many expressions a tell has, from T_WRITE to T_LOSE. */
    private static final int[] ARGUMENTS = {2, 2, 1, 0, 0, 1, 2, 1, 3, 2};

    private final Store store;
    private final Journal journal;
    private final Copies copies;
    private final Outlook outlook;
    private final Store[] slots;
    private int slotsHeld;
    private final byte[] tape;
    private int tapeLength;
    private int faultPlace;
    private int tellsDone;
    private final Tokens tokens;
    private final Grammar grammar;
    private final Runner runner;
    private final byte[] reached;
    private final StringBuilder name;

    public RestoreDesk() {
        store = new Store();
        journal = store.journal;
        copies = store.copies;
        outlook = new Outlook(store);
        slots = new Store[MOST_SLOTS];
        slotsHeld = 0;
        tape = new byte[MOST_BYTES];
        tapeLength = 0;
        faultPlace = NONE;
        tellsDone = 0;
        tokens = new Tokens();
        grammar = new Grammar(tokens);
        runner = new Runner(tokens);
        reached = new byte[MOST_PLACE + 1];
        name = new StringBuilder();
    }

    // ---- the tape and its texts

    public int feed(int a, int b, int c, int d, int e) {
        if (tapeLength + FEED_BYTES > MOST_BYTES) {
            return NONE;
        }
        putBytes(a);
        putBytes(b);
        putBytes(c);
        putBytes(d);
        putBytes(e);
        return tapeLength;
    }

    private void putBytes(int four) {
        for (int shift = 24; shift >= 0; shift -= 8) {
            if (tapeLength >= 0 && tapeLength < tape.length) {
                tape[tapeLength] = (byte) (four >> shift);
                tapeLength++;
            }
        }
    }

    public int back(int n) {
        if (n < 0 || n > tapeLength) {
            return NONE;
        }
        tapeLength -= n;
        return tapeLength;
    }

    public int read() {
        tokens.scan(tape, tapeLength);
        tapeLength = 0;
        grammar.check();
        faultPlace = grammar.faultPlace;
        if (grammar.fault != 0) {
            return grammar.fault;
        }
        store.begin(grammar.pages, grammar.size);
        slotsHeld = 0;
        perform();
        return 0;
    }

    private void perform() {
        int told = 0;
        tellsDone = 0;
        runner.rewind(grammar.firstTell);
        for (int n = 0; n < MOST_TELLS; n++) {
            runner.know(journal.now(), journal.going(), copies.number, told);
            if (!runner.next(tellsDone)) {
                return;
            }
            told = tell(runner.kind, runner.a, runner.b, runner.c);
            tellsDone++;
        }
    }

    private int tell(int kind, int a, int b, int c) {
        switch (kind) {
            case T_WRITE:
                return write(a, b);
            case T_ADD:
                return add(a, b);
            case T_MARK:
                return mark(a);
            case T_FILL:
                return fill();
            case T_COPY:
                return copy(NONE);
            case T_UPON:
                return copy(a);
            case T_TAKE:
                return take(a, b) ? 1 : 0;
            case T_CLOSE:
                return close(a) ? 1 : 0;
            case T_RESTORE:
                return restore(a, b, c);
            case T_LOSE:
                return lose(a, b) ? 1 : 0;
            default:
                return 0;
        }
    }

    public int place() {
        return faultPlace;
    }

    // ---- what happens to the store

    public int write(int page, int value) {
        return store.hasPage(page) ? journal.come(WRITTEN, page, value) : NONE;
    }

    public int add(int page, int much) {
        return store.hasPage(page) ? journal.come(ADDED, page, much) : NONE;
    }

    public int mark(int number) {
        return journal.come(MARK, number, 0);
    }

    public int fill() {
        int missing = journal.missingToFull();
        if (!journal.hasRoomFor(missing)) {
            return NONE;
        }
        for (int n = 0; n < missing; n++) {
            journal.come(EMPTY, NOTHING, 0);
        }
        return missing;
    }

    public int copy(int upon) {
        if (upon != NONE && !copies.hasCopy(upon)) {
            return NONE;
        }
        return copies.begin(journal.going(), upon == NONE ? NOTHING : upon);
    }

    public boolean take(int copy, int page) {
        int line = journal.going();
        if (!copies.isOpen(copy) || copies.lineOf(copy) != line || !store.hasPage(page)) {
            return false;
        }
        int place = journal.now();
        copies.put(copy, page, line, place, journal.valueAs(page, line, place));
        return true;
    }

    public boolean close(int copy) {
        return copies.shut(copy);
    }

    public int combine(int copy) {
        if (!copies.isFit(copy, store.pages)) {
            return NONE;
        }
        int made = copies.begin(copies.lineOf(copy), NOTHING);
        if (made == NONE) {
            return NONE;
        }
        for (int page = 0; page < store.pages; page++) {
            int cell = copies.cellOf(copy, page);
            copies.put(made, page, copies.sourceIn(cell), copies.placeIn(cell), copies.valueIn(cell));
        }
        copies.shut(made);
        return made;
    }

    public boolean drop(int copy) {
        return copies.letGo(copy);
    }

    public int restore(int copy, int line, int place) {
        if (journal.lines >= MOST_LINES) {
            return OUT_NONE;
        }
        outlook.aim(copy, line);
        int outcome = outlook.outcomeAt(place);
        if (outcome == OUT_DONE) {
            journal.branch(line, place);
        }
        return outcome;
    }

    public boolean lose(int line, int piece) {
        if (journal.conditionOf(line, piece) < KEPT) {
            return false;
        }
        journal.setCondition(line, piece, NOT_KEPT);
        return true;
    }

    public boolean twice(int line, int piece, boolean alike) {
        int condition = journal.conditionOf(line, piece);
        int due = alike ? ALIKE : UNLIKE;
        if (condition < KEPT || condition == due) {
            return false;
        }
        journal.setCondition(line, piece, due);
        return true;
    }

    // ---- what each moment was

    public int page(int page, int line, int place) {
        if (!store.hasPage(page) || !journal.hasPlace(line, place)) {
            return 0;
        }
        return journal.valueAs(page, line, place);
    }

    public int record(int line, int place, int what) {
        int row = journal.rowOf(line, place);
        if (row == NONE) {
            return NO_RECORD;
        }
        switch (what) {
            case 0:
                return journal.sortIn(row);
            case 1:
                return journal.subjectIn(row);
            case 2:
                return journal.lineOfRow(row);
            default:
                return NO_RECORD;
        }
    }

    public int value(int line, int place) {
        return journal.amountIn(journal.rowOf(line, place));
    }

    public int line(int line, int what) {
        if (!journal.hasLine(line)) {
            return NONE;
        }
        switch (what) {
            case 0:
                return journal.tipOf(line);
            case 1:
                return journal.parentOf(line);
            case 2:
                return line == 0 ? NOTHING : journal.forkOf(line);
            case 3:
                return journal.wayLength(line);
            case 4:
                return journal.pieceHolding(journal.forkOf(line) + 1);
            default:
                return NONE;
        }
    }

    public int piece(int line, int piece) {
        return journal.conditionOf(line, piece);
    }

    public int made(int copy, int what) {
        if (!copies.hasCopy(copy)) {
            return NONE;
        }
        switch (what) {
            case 0:
                return copies.lineOf(copy);
            case 1:
                return copies.uponOf(copy);
            case 2:
                return copies.isOpen(copy) ? 1 : 0;
            case 3:
                return copies.ownPages(copy);
            case 4:
                return copies.allPages(copy);
            case 5:
                return copies.isFit(copy, store.pages) ? 1 : 0;
            case 6:
                return copies.chainOf(copy);
            case 7:
                return copies.isDropped(copy) ? 1 : 0;
            default:
                return NONE;
        }
    }

    public int source(int copy, int page) {
        if (!copies.hasCopy(copy) || !store.hasPage(page)) {
            return NONE;
        }
        return copies.sourceIn(copies.cellOf(copy, page));
    }

    public int taken(int copy, int page) {
        if (!copies.hasCopy(copy) || !store.hasPage(page)) {
            return NONE;
        }
        return copies.placeIn(copies.cellOf(copy, page));
    }

    public int held(int copy, int page) {
        return copies.valueIn(copies.cellOf(copy, page));
    }

    // ---- what a restore would be

    public int would(int copy, int line, int place) {
        outlook.aim(copy, line);
        return outlook.outcomeAt(place);
    }

    public int named(int copy, int line, int place, int i) {
        int outcome = would(copy, line, place);
        name.setLength(0);
        switch (outcome) {
            case OUT_DONE:
                name.append("ok");
                break;
            case OUT_NONE:
                name.append("none");
                break;
            case OUT_BRANCH:
                name.append("branch");
                break;
            case OUT_EARLY:
                name.append("early");
                break;
            default:
                name.append('t');
                name.append(outlook.badLine);
                name.append('p');
                name.append(outlook.badPiece);
                break;
        }
        if (i < 0 || i >= name.length()) {
            return NONE;
        }
        return name.charAt(i);
    }

    public int needs(int copy, int line, int place, int what) {
        outlook.aim(copy, line);
        if (what < 0 || what > 3 || !outlook.isOnTheWay(place)) {
            return NONE;
        }
        int records = outlook.neededTo(place);
        if (what == 0) {
            return records;
        }
        if (records == 0) {
            return NOTHING;
        }
        if (what == 1) {
            return outlook.first;
        }
        return journal.pieceHolding(what == 2 ? outlook.first : place);
    }

    public int best(int line, int place) {
        if (!journal.hasPlace(line, place)) {
            return NONE;
        }
        int found = NOTHING;
        int fewest = 0;
        for (int copy = 0; copy < copies.number; copy++) {
            outlook.aim(copy, line);
            int records = outlook.neededTo(place);
            if (outlook.outcomeAt(place) == OUT_DONE && (found == NOTHING || records <= fewest)) {
                found = copy;
                fewest = records;
            }
        }
        return found;
    }

    public int pinned(int line, int piece) {
        if (!journal.hasPiece(line, piece)) {
            return NONE;
        }
        if (journal.keeperOf(journal.going(), piece) != line) {
            return 0;
        }
        int bits = 0;
        for (int copy = 0; copy < copies.number; copy++) {
            int from = firstPinnedBy(copy);
            if (from != NOTHING && piece >= from && piece <= journal.pieceHolding(journal.now())) {
                bits |= 1 << copy;
            }
        }
        return bits;
    }

    /** What a copy pins goes from this piece on to that of the place now; NOTHING: it pins none. */
    private int firstPinnedBy(int copy) {
        int place = journal.now();
        outlook.aim(copy, journal.going());
        if (!outlook.isOnTheWay(place) || outlook.neededTo(place) == 0) {
            return NOTHING;
        }
        return journal.pieceHolding(outlook.first);
    }

    public int dirty(int copy) {
        if (!copies.hasCopy(copy)) {
            return NONE;
        }
        int line = journal.going();
        int bits = 0;
        for (int page = 0; page < store.pages; page++) {
            int cell = copies.cellOf(copy, page);
            int since = copies.placeIn(cell);
            if (cell == NONE || !journal.leadsTo(line, copies.sourceIn(cell), since)
                    || journal.lastChange(page, line, journal.now()) > since) {
                bits |= 1 << page;
            }
        }
        return bits;
    }

    public int common(int line, int other) {
        if (!journal.hasLine(line) || !journal.hasLine(other)) {
            return NONE;
        }
        int end = Math.min(journal.tipOf(line), journal.tipOf(other));
        int same = 0;
        while (same < end && journal.rowOf(line, same + 1) == journal.rowOf(other, same + 1)) {
            same++;
        }
        return same;
    }

    public int gaps(int line, int what) {
        if (!journal.hasLine(line) || what < 0 || what > 1) {
            return NONE;
        }
        int many = 0;
        int first = NOTHING;
        int end = journal.pieceHolding(journal.tipOf(line));
        for (int piece = 0; piece <= end; piece++) {
            if (journal.hindranceOf(journal.keeperOf(line, piece), piece) == OUT_LACKS) {
                first = many == 0 ? piece : first;
                many++;
            }
        }
        return what == 0 ? many : first;
    }

    public int stop(int line, int number, boolean after) {
        if (!journal.hasLine(line)) {
            return NONE;
        }
        for (int place = journal.tipOf(line); place > 0; place--) {
            if (journal.isMark(journal.rowOf(line, place), number)) {
                return after ? place : place - 1;
            }
        }
        return NOTHING;
    }

    public int window(int copy, int line, int what) {
        if (!copies.hasCopy(copy) || !journal.hasLine(line) || what < 0 || what > 2) {
            return NONE;
        }
        outlook.aim(copy, line);
        int many = outlook.placesReached();
        if (what == 0) {
            return many;
        }
        if (many == 0) {
            return NOTHING;
        }
        return what == 1 ? outlook.start : outlook.end;
    }

    public int reach(int line) {
        return journal.hasLine(line) ? reachOf(line) : NONE;
    }

    private int reachOf(int line) {
        Arrays.fill(reached, (byte) 0);
        int many = 0;
        for (int copy = 0; copy < copies.number; copy++) {
            outlook.aim(copy, line);
            for (int place = Math.max(outlook.start, 0); place <= outlook.end && place < reached.length; place++) {
                many += reached[place] == 0 ? 1 : 0;
                reached[place] = 1;
            }
        }
        return many;
    }

    public int spare() {
        int from = MOST_PIECES;
        for (int copy = 0; copy < copies.number; copy++) {
            int first = firstPinnedBy(copy);
            from = first == NOTHING ? from : Math.min(from, first);
        }
        int pinnedOnes = 0;
        int going = journal.going();
        int end = journal.pieceHolding(journal.now());
        for (int piece = from; piece <= end; piece++) {
            pinnedOnes += journal.conditionOf(journal.keeperOf(going, piece), piece) >= KEPT ? 1 : 0;
        }
        return journal.keptPieces() - pinnedOnes;
    }

    public int hurts(int line, int piece) {
        int condition = journal.conditionOf(line, piece);
        if (condition < KEPT) {
            return NONE;
        }
        int going = journal.going();
        int with = reachOf(going);
        journal.setCondition(line, piece, NOT_KEPT);
        int without = reachOf(going);
        journal.setCondition(line, piece, condition);
        return with - without;
    }

    public int newest(int line) {
        if (!journal.hasLine(line)) {
            return NONE;
        }
        int found = NOTHING;
        for (int copy = 0; copy < copies.number; copy++) {
            outlook.aim(copy, line);
            if (outlook.placesReached() > 0) {
                found = Math.max(found, outlook.end);
            }
        }
        return found;
    }

    public int age(int copy) {
        if (!copies.isFit(copy, store.pages)) {
            return NO_AGE;
        }
        int greatest = 0;
        for (int page = 0; page < store.pages; page++) {
            greatest = Math.max(greatest, copies.placeIn(copies.cellOf(copy, page)));
        }
        return journal.now() - greatest;
    }

    public int work(int copy, int line, int place) {
        outlook.aim(copy, line);
        return outlook.isOnTheWay(place) ? outlook.changesTo(place) : NONE;
    }

    public int differ(int line, int place, int other, int there) {
        if (!journal.hasPlace(line, place) || !journal.hasPlace(other, there)) {
            return NONE;
        }
        int bits = 0;
        for (int page = 0; page < store.pages; page++) {
            if (journal.valueAs(page, line, place) != journal.valueAs(page, other, there)) {
                bits |= 1 << page;
            }
        }
        return bits;
    }

    public int last(int page, int line, int place) {
        if (!store.hasPage(page) || !journal.hasPlace(line, place)) {
            return NONE;
        }
        return journal.lastChange(page, line, place);
    }

    public int way(int line, int i) {
        if (i < 0 || i >= journal.wayLength(line)) {
            return NONE;
        }
        int at = line;
        for (int step = 0; step < i; step++) {
            at = journal.parentOf(at);
        }
        return at;
    }

    public int where(int number, int what) {
        if (what < 0 || what > 2) {
            return NONE;
        }
        // Lines go on one behind the other, so the rows stand by line and then by place.
        int many = 0;
        int first = NOTHING;
        for (int row = 0; row < journal.records; row++) {
            if (journal.isMark(row, number)) {
                first = many == 0 ? row : first;
                many++;
            }
        }
        if (what == 0) {
            return many;
        }
        if (many == 0) {
            return NOTHING;
        }
        int line = journal.lineOfRow(first);
        return what == 1 ? line : journal.placeOfRow(line, first);
    }

    public int busiest(int line, int what) {
        if (!journal.hasLine(line) || what < 0 || what > 1) {
            return NONE;
        }
        int found = 0;
        int most = 0;
        for (int page = 0; page < store.pages; page++) {
            int many = journal.changesOf(page, line);
            if (many > most) {
                found = page;
                most = many;
            }
        }
        return what == 0 ? found : most;
    }

    // ---- what is held, and the counts

    public boolean hold(int slot) {
        if (slot < 0 || slot >= slots.length) {
            return false;
        }
        if (slots[slot] == null) {
            slots[slot] = new Store();
        }
        slots[slot].become(store);
        slotsHeld |= 1 << slot;
        return true;
    }

    public boolean again(int slot) {
        if (slot < 0 || slot >= slots.length || (slotsHeld >> slot & 1) == 0 || slots[slot] == null) {
            return false;
        }
        store.become(slots[slot]);
        return true;
    }

    public int count(int what) {
        switch (what) {
            case 0:
                return store.pages;
            case 1:
                return journal.size;
            case 2:
                return journal.lines;
            case 3:
                return journal.going();
            case 4:
                return journal.now();
            case 5:
                return journal.records;
            case 6:
                return copies.number;
            case 7:
                return copies.fitOnes(store.pages);
            case 8:
                return tapeLength;
            case 9:
                return journal.keptPieces();
            case 10:
                return Integer.bitCount(slotsHeld);
            case 11:
                return tellsDone;
            case 12:
                return copies.openOnes;
            case 13:
                return copies.droppedOnes;
            case 14:
                return journal.marks();
            case 15:
                return journal.parentOnes();
            default:
                return NONE;
        }
    }

    // ---- the classes inside

    /** All that a slot holds. */
    private static final class Store {
        private int pages;
        private final Journal journal;
        private final Copies copies;

        Store() {
            pages = USUAL_PAGES;
            journal = new Journal();
            copies = new Copies();
        }

        void begin(int newPages, int newSize) {
            pages = newPages;
            journal.begin(newSize);
            copies.forget();
        }

        void become(Store other) {
            pages = other.pages;
            journal.become(other.journal);
            copies.become(other.copies);
        }

        boolean hasPage(int page) {
            return page >= 0 && page < pages;
        }
    }

    /**
     * The lines, their records and their pieces. A line never goes on again once another one does, so
     * the newest line is the one that goes on, and each line's own records lie side by side in the rows.
     */
    private static final class Journal {
        private int size;
        private int lines;
        private int records;
        private final int[] parents;
        private final int[] forks;
        private final int[] tips;
        private final int[] starts;
        private final byte[] sorts;
        private final int[] subjects;
        private final int[] amounts;
        private final byte[] conditions;

        Journal() {
            size = USUAL_SIZE;
            lines = 1;
            records = 0;
            parents = new int[MOST_LINES];
            forks = new int[MOST_LINES];
            tips = new int[MOST_LINES];
            starts = new int[MOST_LINES];
            sorts = new byte[MOST_RECORDS];
            subjects = new int[MOST_RECORDS];
            amounts = new int[MOST_RECORDS];
            conditions = new byte[MOST_LINES * MOST_PIECES];
            parents[0] = NOTHING;
        }

        void begin(int newSize) {
            size = newSize;
            lines = 0;
            records = 0;
            branch(NOTHING, 0);
        }

        void become(Journal other) {
            size = other.size;
            lines = other.lines;
            records = other.records;
            System.arraycopy(other.parents, 0, parents, 0, MOST_LINES);
            System.arraycopy(other.forks, 0, forks, 0, MOST_LINES);
            System.arraycopy(other.tips, 0, tips, 0, MOST_LINES);
            System.arraycopy(other.starts, 0, starts, 0, MOST_LINES);
            System.arraycopy(other.sorts, 0, sorts, 0, MOST_RECORDS);
            System.arraycopy(other.subjects, 0, subjects, 0, MOST_RECORDS);
            System.arraycopy(other.amounts, 0, amounts, 0, MOST_RECORDS);
            System.arraycopy(other.conditions, 0, conditions, 0, MOST_LINES * MOST_PIECES);
        }

        void branch(int parent, int fork) {
            if (lines < 0 || lines >= MOST_LINES) {
                return;
            }
            int line = lines;
            lines++;
            parents[line] = parent;
            forks[line] = fork;
            tips[line] = fork;
            starts[line] = records;
            // A line of an earlier store may have left its pieces here.
            for (int piece = 0; piece < MOST_PIECES; piece++) {
                conditions[line * MOST_PIECES + piece] = NOT_KEPT;
            }
        }

        // ---- lines

        int going() {
            return lines - 1;
        }

        int now() {
            return lines > 0 ? tips[lines - 1] : 0;
        }

        boolean hasLine(int line) {
            return line >= 0 && line < lines;
        }

        boolean hasPlace(int line, int place) {
            return hasLine(line) && place >= 0 && place <= tips[line];
        }

        int tipOf(int line) {
            return hasLine(line) ? tips[line] : 0;
        }

        int forkOf(int line) {
            return hasLine(line) ? forks[line] : 0;
        }

        int parentOf(int line) {
            return hasLine(line) ? parents[line] : NOTHING;
        }

        int wayLength(int line) {
            int length = 0;
            int at = line;
            while (length < MOST_LINES && hasLine(at)) {
                length++;
                at = parents[at];
            }
            return length;
        }

        int parentOnes() {
            int bits = 0;
            for (int line = 1; line < lines; line++) {
                bits |= 1 << parents[line];
            }
            return bits;
        }

        /** Whether the way of a line comes by a place of a source, or the place lies on another branch. */
        boolean leadsTo(int line, int source, int place) {
            int at = line;
            for (int step = 0; step < MOST_LINES && at != source; step++) {
                if (at <= 0 || at >= lines || place > forks[at]) {
                    return false;
                }
                at = parents[at];
            }
            return at == source;
        }

        // ---- records

        int come(int sort, int subject, int amount) {
            int line = lines - 1;
            if (line < 0 || !hasRoomFor(1)) {
                return NONE;
            }
            sorts[records] = (byte) sort;
            subjects[records] = subject;
            amounts[records] = amount;
            records++;
            tips[line]++;
            if (missingToFull() == 0) {
                setCondition(line, pieceHolding(tips[line]), KEPT);
            }
            return tips[line];
        }

        boolean hasRoomFor(int many) {
            return records + many <= MOST_RECORDS && now() + many <= MOST_PLACE;
        }

        int missingToFull() {
            int over = size < 1 ? 0 : now() % size;
            return over == 0 ? 0 : size - over;
        }

        /** Where the record of a line at a place lies, by its way; NONE: there is none. */
        int rowOf(int line, int place) {
            if (line < 0 || line >= lines || place < 1 || place > tips[line]) {
                return NONE;
            }
            int at = line;
            for (int step = 0; step < MOST_LINES && at > 0 && place <= forks[at]; step++) {
                at = parents[at];
            }
            return at < 0 ? NONE : starts[at] + place - forks[at] - 1;
        }

        boolean hasRow(int row) {
            return row >= 0 && row < records;
        }

        int sortIn(int row) {
            return hasRow(row) ? sorts[row] : NONE;
        }

        int subjectIn(int row) {
            return hasRow(row) ? subjects[row] : NONE;
        }

        int amountIn(int row) {
            return hasRow(row) ? amounts[row] : 0;
        }

        boolean isMark(int row, int number) {
            return hasRow(row) && sorts[row] == MARK && subjects[row] == number;
        }

        int marks() {
            int many = 0;
            for (int row = 0; row < records; row++) {
                many += sorts[row] == MARK ? 1 : 0;
            }
            return many;
        }

        int lineOfRow(int row) {
            int line = lines - 1;
            while (line > 0 && row < starts[line]) {
                line--;
            }
            return line;
        }

        int placeOfRow(int line, int row) {
            return hasLine(line) ? forks[line] + row - starts[line] + 1 : NOTHING;
        }

        /** The page that the record at a place writes or adds to; NONE: it changes none. */
        int changedAt(int line, int place) {
            int row = rowOf(line, place);
            return hasRow(row) && sorts[row] <= ADDED ? subjects[row] : NONE;
        }

        int valueAs(int page, int line, int place) {
            int value = 0;
            for (int at = Math.min(place, tipOf(line)); at > 0; at--) {
                int row = rowOf(line, at);
                if (hasRow(row) && sorts[row] <= ADDED && subjects[row] == page) {
                    value += amounts[row];
                    if (sorts[row] == WRITTEN) {
                        return value;
                    }
                }
            }
            return value;
        }

        int lastChange(int page, int line, int place) {
            int at = Math.min(place, tipOf(line));
            while (at > 0 && changedAt(line, at) != page) {
                at--;
            }
            return Math.max(at, 0);
        }

        int changesOf(int page, int line) {
            int end = tipOf(line);
            int many = 0;
            for (int at = 1; at <= end; at++) {
                many += changedAt(line, at) == page ? 1 : 0;
            }
            return many;
        }

        // ---- pieces

        int pieceHolding(int place) {
            return place < 1 || size < 1 ? NONE : (place - 1) / size;
        }

        /** A piece is of a line if it ends behind the line's fork, and begins ahead of its tip. */
        boolean hasPiece(int line, int piece) {
            return line >= 0 && line < lines && piece >= 0 && piece < MOST_PIECES
                && (piece + 1) * size > forks[line] && piece * size < tips[line];
        }

        int conditionOf(int line, int piece) {
            return hasPiece(line, piece) ? conditions[line * MOST_PIECES + piece] : NONE;
        }

        void setCondition(int line, int piece, int condition) {
            if (hasPiece(line, piece)) {
                conditions[line * MOST_PIECES + piece] = (byte) condition;
            }
        }

        /** The first line on the way of one whose pieces begin at a number or at a lesser one. */
        int keeperOf(int line, int piece) {
            int at = line;
            for (int step = 0; step < MOST_LINES && hasLine(at) && (piece + 1) * size <= forks[at]; step++) {
                at = parents[at];
            }
            return at;
        }

        /** How a restore that needs a piece comes out by it. */
        int hindranceOf(int line, int piece) {
            if (!hasPiece(line, piece)) {
                return OUT_LACKS;
            }
            int condition = conditions[line * MOST_PIECES + piece];
            if (condition == UNLIKE) {
                return OUT_UNLIKE;
            }
            boolean fillsUp = line == lines - 1 && tips[line] < (piece + 1) * size;
            return condition >= KEPT || fillsUp ? OUT_DONE : OUT_LACKS;
        }

        int keptPieces() {
            int many = 0;
            for (int line = 0; line < lines; line++) {
                for (int piece = 0; piece < MOST_PIECES; piece++) {
                    many += conditions[line * MOST_PIECES + piece] >= KEPT ? 1 : 0;
                }
            }
            return many;
        }
    }

    /** The copies; what is taken of a page stands in a cell. */
    private static final class Copies {
        private int number;
        private int openOnes;
        private int droppedOnes;
        private final int[] lines;
        private final int[] upons;
        private final int[] owns;
        private final int[] sources;
        private final int[] places;
        private final int[] values;

        Copies() {
            number = 0;
            openOnes = 0;
            droppedOnes = 0;
            lines = new int[MOST_COPIES];
            upons = new int[MOST_COPIES];
            owns = new int[MOST_COPIES];
            sources = new int[MOST_COPIES * MOST_PAGES];
            places = new int[MOST_COPIES * MOST_PAGES];
            values = new int[MOST_COPIES * MOST_PAGES];
        }

        void forget() {
            number = 0;
            openOnes = 0;
            droppedOnes = 0;
        }

        void become(Copies other) {
            number = other.number;
            openOnes = other.openOnes;
            droppedOnes = other.droppedOnes;
            System.arraycopy(other.lines, 0, lines, 0, MOST_COPIES);
            System.arraycopy(other.upons, 0, upons, 0, MOST_COPIES);
            System.arraycopy(other.owns, 0, owns, 0, MOST_COPIES);
            System.arraycopy(other.sources, 0, sources, 0, MOST_COPIES * MOST_PAGES);
            System.arraycopy(other.places, 0, places, 0, MOST_COPIES * MOST_PAGES);
            System.arraycopy(other.values, 0, values, 0, MOST_COPIES * MOST_PAGES);
        }

        int begin(int line, int upon) {
            if (number < 0 || number >= MOST_COPIES) {
                return NONE;
            }
            int copy = number;
            number++;
            lines[copy] = line;
            upons[copy] = upon;
            owns[copy] = 0;
            openOnes |= 1 << copy;
            return copy;
        }

        void put(int copy, int page, int source, int place, int value) {
            if (!hasCopy(copy) || page < 0 || page >= MOST_PAGES) {
                return;
            }
            int cell = copy * MOST_PAGES + page;
            owns[copy] |= 1 << page;
            sources[cell] = source;
            places[cell] = place;
            values[cell] = value;
        }

        boolean shut(int copy) {
            if (!isOpen(copy)) {
                return false;
            }
            openOnes &= ~(1 << copy);
            return true;
        }

        boolean letGo(int copy) {
            if (!hasCopy(copy) || isOpen(copy) || isDropped(copy) || carriesOne(copy)) {
                return false;
            }
            droppedOnes |= 1 << copy;
            return true;
        }

        private boolean carriesOne(int copy) {
            for (int other = 0; other < number; other++) {
                if (upons[other] == copy && !isDropped(other)) {
                    return true;
                }
            }
            return false;
        }

        boolean hasCopy(int copy) {
            return copy >= 0 && copy < number;
        }

        boolean isOpen(int copy) {
            return hasCopy(copy) && (openOnes >> copy & 1) != 0;
        }

        boolean isDropped(int copy) {
            return hasCopy(copy) && (droppedOnes >> copy & 1) != 0;
        }

        int lineOf(int copy) {
            return hasCopy(copy) ? lines[copy] : NONE;
        }

        int uponOf(int copy) {
            return hasCopy(copy) ? upons[copy] : NOTHING;
        }

        int ownPages(int copy) {
            return hasCopy(copy) ? owns[copy] : 0;
        }

        int allPages(int copy) {
            int bits = 0;
            int at = copy;
            for (int step = 0; step < MOST_COPIES && hasCopy(at); step++) {
                bits |= owns[at];
                at = upons[at];
            }
            return bits;
        }

        int chainOf(int copy) {
            int length = 0;
            int at = copy;
            while (length < MOST_COPIES && hasCopy(at)) {
                length++;
                at = upons[at];
            }
            return length;
        }

        boolean isFit(int copy, int pages) {
            if (!hasCopy(copy) || allPages(copy) != (1 << pages) - 1) {
                return false;
            }
            int at = copy;
            for (int step = 0; step < MOST_COPIES && hasCopy(at); step++) {
                if (((openOnes | droppedOnes) >> at & 1) != 0) {
                    return false;
                }
                at = upons[at];
            }
            return true;
        }

        int fitOnes(int pages) {
            int bits = 0;
            for (int copy = 0; copy < number; copy++) {
                bits |= isFit(copy, pages) ? 1 << copy : 0;
            }
            return bits;
        }

        /** The cell of a page of a copy, its own or of one upon which it is; NONE: the page lacks. */
        int cellOf(int copy, int page) {
            if (page < 0 || page >= MOST_PAGES) {
                return NONE;
            }
            int at = copy;
            for (int step = 0; step < MOST_COPIES && hasCopy(at); step++) {
                if ((owns[at] >> page & 1) != 0) {
                    return at * MOST_PAGES + page;
                }
                at = upons[at];
            }
            return NONE;
        }

        int sourceIn(int cell) {
            return cell >= 0 && cell < sources.length ? sources[cell] : NOTHING;
        }

        int placeIn(int cell) {
            return cell >= 0 && cell < places.length ? places[cell] : NOTHING;
        }

        int valueIn(int cell) {
            return cell >= 0 && cell < values.length ? values[cell] : 0;
        }
    }

    /**
     * How restores of one copy to the places of one line would come out. What a restore needs begins
     * at the same place whatever place it goes to, so those that come out as done are the places from
     * start to end, and one look serves them all.
     */
    private static final class Outlook {
        private final Store store;
        private final Journal journal;
        private final Copies copies;
        private final int[] since;
        private int line;
        private int ground;
        private int first;
        private int start;
        private int end;
        private int badLine;
        private int badPiece;
        private int badOutcome;

        Outlook(Store givenStore) {
            store = givenStore;
            journal = givenStore.journal;
            copies = givenStore.copies;
            since = new int[MOST_PAGES];
            line = NONE;
            ground = OUT_NONE;
            first = NOTHING;
            start = 0;
            end = NONE;
            badLine = NONE;
            badPiece = NONE;
            badOutcome = OUT_NONE;
        }

        void aim(int copy, int newLine) {
            line = newLine;
            first = NOTHING;
            start = 0;
            end = NONE;
            ground = OUT_NONE;
            if (!journal.hasLine(line) || !copies.isFit(copy, store.pages)) {
                return;
            }
            ground = lookAtPages(copy);
            if (ground == OUT_DONE) {
                first = firstChange();
                end = journal.tipOf(line);
                lookAtPieces();
            }
        }

        private int lookAtPages(int copy) {
            int outcome = OUT_DONE;
            for (int page = 0; page < store.pages && page < since.length; page++) {
                int cell = copies.cellOf(copy, page);
                since[page] = copies.placeIn(cell);
                start = Math.max(start, since[page]);
                if (!journal.leadsTo(line, copies.sourceIn(cell), since[page])) {
                    outcome = OUT_BRANCH;
                }
            }
            return outcome;
        }

        private boolean isBehind(int page, int place) {
            return page >= 0 && page < since.length && place > since[page];
        }

        private int firstChange() {
            int tip = journal.tipOf(line);
            for (int place = 1; place <= tip; place++) {
                if (isBehind(journal.changedAt(line, place), place)) {
                    return place;
                }
            }
            return NOTHING;
        }

        private void lookAtPieces() {
            if (first == NOTHING) {
                return;
            }
            int lastPiece = journal.pieceHolding(end);
            for (int piece = journal.pieceHolding(first); piece <= lastPiece; piece++) {
                int keeper = journal.keeperOf(line, piece);
                badOutcome = journal.hindranceOf(keeper, piece);
                if (badOutcome != OUT_DONE) {
                    badLine = keeper;
                    badPiece = piece;
                    end = Math.max(first - 1, piece * journal.size);
                    return;
                }
            }
        }

        int outcomeAt(int place) {
            if (!journal.hasPlace(line, place)) {
                return OUT_NONE;
            }
            if (ground != OUT_DONE) {
                return ground;
            }
            if (place < start) {
                return OUT_EARLY;
            }
            return place <= end ? OUT_DONE : badOutcome;
        }

        /** Whether a restore would come out as done, or would lack pieces alone. */
        boolean isOnTheWay(int place) {
            int outcome = outcomeAt(place);
            return outcome == OUT_DONE || outcome == OUT_LACKS || outcome == OUT_UNLIKE;
        }

        int neededTo(int place) {
            return first == NOTHING || place < first ? 0 : place - first + 1;
        }

        int changesTo(int place) {
            int tip = Math.min(place, journal.tipOf(line));
            int many = 0;
            for (int at = Math.max(first, 1); at <= tip; at++) {
                many += isBehind(journal.changedAt(line, at), at) ? 1 : 0;
            }
            return many;
        }

        int placesReached() {
            return Math.max(0, end - start + 1);
        }
    }

    /** The tokens of a text, up to the first that is none, with what stands at the end behind them. */
    private static final class Tokens {
        private int number;
        private final int[] kinds;
        private final int[] numbers;
        private final int[] places;

        Tokens() {
            number = 0;
            kinds = new int[MOST_TOKENS + 2];
            numbers = new int[MOST_TOKENS + 2];
            places = new int[MOST_TOKENS + 2];
        }

        void scan(byte[] text, int length) {
            int end = Math.min(length, text.length);
            int at = 0;
            number = 0;
            // One token more than there may be is kept: the grammar tells whether it is of another fault first.
            for (int step = 0; step < MOST_BYTES && at < end && number <= MOST_TOKENS; step++) {
                int sign = text[at] & 255;
                if (isBlank(sign)) {
                    at++;
                    continue;
                }
                int next = endOfRun(text, at, end);
                int kind = kindOf(text, at, next);
                put(kind, kind == T_INT ? numberOf(text, at, next) : 0, at);
                if (kind == T_NO_TOKEN) {
                    return;
                }
                at = next;
            }
            put(T_TEXT_END, 0, end);
        }

        private void put(int kind, int value, int place) {
            if (number >= 0 && number < kinds.length) {
                kinds[number] = kind;
                numbers[number] = value;
                places[number] = place;
                number++;
            }
        }

        private static boolean isBlank(int sign) {
            return sign == 9 || sign == 10 || sign == 13 || sign == 32;
        }

        private static boolean isLetter(int sign) {
            return sign >= 'a' && sign <= 'z';
        }

        private static boolean isDigit(int sign) {
            return sign >= '0' && sign <= '9';
        }

        private static int endOfRun(byte[] text, int from, int end) {
            int at = from;
            while (at < end && isLetter(text[at] & 255)) {
                at++;
            }
            if (at > from) {
                return at;
            }
            while (at < end && isDigit(text[at] & 255)) {
                at++;
            }
            return at > from ? at : from + 1;
        }

        private static int kindOf(byte[] text, int from, int to) {
            int sign = text[from] & 255;
            if (isLetter(sign)) {
                return wordAt(text, from, to);
            }
            if (isDigit(sign)) {
                return to - from > MOST_DIGITS ? T_NO_TOKEN : T_INT;
            }
            int known = SIGNS.indexOf((char) sign);
            return known < 0 ? T_NO_TOKEN : T_SEMICOLON + known;
        }

        private static int wordAt(byte[] text, int from, int to) {
            if (to - from > WORD_WIDTH) {
                return T_NO_TOKEN;
            }
            for (int word = 0; word < WORD_COUNT; word++) {
                if (isWord(text, from, to, word)) {
                    return word;
                }
            }
            return T_NO_TOKEN;
        }

        private static boolean isWord(byte[] text, int from, int to, int word) {
            for (int column = 0; column < WORD_WIDTH; column++) {
                int sign = from + column < to ? text[from + column] & 255 : ' ';
                if (sign != WORDS.charAt(word * WORD_WIDTH + column)) {
                    return false;
                }
            }
            return true;
        }

        private static int numberOf(byte[] text, int from, int to) {
            int value = 0;
            for (int at = from; at < to; at++) {
                value = value * 10 + (text[at] & 255) - '0';
            }
            return value;
        }

        int kindAt(int at) {
            return at >= 0 && at < number ? kinds[at] : T_NO_TOKEN;
        }

        int numberAt(int at) {
            return at >= 0 && at < number ? numbers[at] : 0;
        }

        int placeAt(int at) {
            return at >= 0 && at < number ? places[at] : NONE;
        }
    }

    /** Finds the first fault of a text, and what its head tells. */
    private static final class Grammar {
        private final Tokens tokens;
        private int at;
        private int fault;
        private int faultPlace;
        private int pages;
        private int size;
        private int firstTell;

        Grammar(Tokens givenTokens) {
            tokens = givenTokens;
            at = 0;
            fault = 0;
            faultPlace = NONE;
            pages = USUAL_PAGES;
            size = USUAL_SIZE;
            firstTell = 0;
        }

        void check() {
            at = 0;
            fault = 0;
            faultPlace = NONE;
            pages = USUAL_PAGES;
            size = USUAL_SIZE;
            if (checkHead() && checkTells()) {
                checkNumbers();
            }
        }

        private boolean fail(int newFault, int where) {
            fault = newFault;
            faultPlace = tokens.placeAt(where);
            return false;
        }

        /** Goes over a token with which the text may go on. */
        private boolean goOver() {
            if (at >= MOST_TOKENS) {
                return fail(FAULT_ROOM, at);
            }
            at++;
            return true;
        }

        private boolean expect(int kind) {
            return tokens.kindAt(at) == kind ? goOver() : fail(FAULT_SYNTAX, at);
        }

        private boolean checkHead() {
            if (tokens.kindAt(at) == T_PAGES) {
                pages = tokens.numberAt(at + 1);
                if (!goOver() || !expect(T_INT) || !expect(T_SEMICOLON)) {
                    return false;
                }
            }
            if (tokens.kindAt(at) == T_PIECE) {
                size = tokens.numberAt(at + 1);
                if (!goOver() || !expect(T_INT) || !expect(T_SEMICOLON)) {
                    return false;
                }
            }
            firstTell = at;
            return true;
        }

        private boolean checkTells() {
            int depth = 0;
            boolean fine = true;
            for (int step = 0; step <= MOST_TOKENS && fine; step++) {
                int kind = tokens.kindAt(at);
                if (kind == T_TEXT_END && depth == 0) {
                    return true;
                }
                if (kind == T_DO) {
                    depth++;
                    fine = depth > MOST_DOS
                        ? fail(FAULT_ROOM, at)
                        : goOver() && expect(T_INT) && expect(T_SEMICOLON);
                } else if (kind == T_END && depth > 0) {
                    depth--;
                    fine = goOver() && expect(T_SEMICOLON);
                } else {
                    fine = checkTell(kind);
                }
            }
            return false;
        }

        private boolean checkTell(int kind) {
            int which = kind - T_WRITE;
            if (which < 0 || which >= ARGUMENTS.length) {
                return fail(FAULT_SYNTAX, at);
            }
            boolean fine = goOver();
            for (int n = 0; n < ARGUMENTS[which] && fine; n++) {
                fine = checkExpression();
            }
            return fine && expect(T_SEMICOLON);
        }

        private boolean checkExpression() {
            int depth = 0;
            boolean unitAhead = false;
            for (int step = 0; step <= MOST_TOKENS; step++) {
                int kind = tokens.kindAt(at);
                if (!unitAhead && kind == T_OPEN) {
                    depth++;
                    if (depth > MOST_BRACKETS) {
                        return fail(FAULT_ROOM, at);
                    }
                } else if (!unitAhead && kind >= T_I && kind <= T_INT) {
                    unitAhead = true;
                } else if (unitAhead && kind >= T_PLUS && kind <= T_REST) {
                    unitAhead = false;
                } else if (unitAhead && kind == T_SHUT && depth > 0) {
                    depth--;
                } else if (unitAhead && depth == 0) {
                    return true;
                } else {
                    return fail(FAULT_SYNTAX, at);
                }
                if (!goOver()) {
                    return false;
                }
            }
            return false;
        }

        private void checkNumbers() {
            for (int n = 0; n < at && fault == 0; n++) {
                int kind = tokens.kindAt(n);
                int number = tokens.numberAt(n + 1);
                boolean wrong = kind == T_PAGES && (number < 1 || number > MOST_PAGES)
                    || kind == T_PIECE && (number < LEAST_SIZE || number > MOST_SIZE)
                    || kind == T_DO && number > MOST_ROUNDS;
                if (wrong) {
                    fail(FAULT_WRONG, n + 1);
                }
            }
        }
    }

    /** Goes through the tells of a text without a fault, round by round. */
    private static final class Runner {
        private final Tokens tokens;
        private int at;
        private int depth;
        private final int[] bodies;
        private final int[] rounds;
        private final int[] tellsAhead;
        private final int[] known;
        private int kind;
        private int a;
        private int b;
        private int c;

        Runner(Tokens givenTokens) {
            tokens = givenTokens;
            at = 0;
            depth = 0;
            bodies = new int[MOST_DOS];
            rounds = new int[MOST_DOS];
            tellsAhead = new int[MOST_DOS];
            known = new int[T_TOLD - T_I + 1];
            kind = T_NO_TOKEN;
            a = 0;
            b = 0;
            c = 0;
        }

        void rewind(int firstTell) {
            at = firstTell;
            depth = 0;
        }

        /** What the words stand for from here on; those of the rounds are found when they are needed. */
        void know(int place, int line, int copies, int told) {
            known[2] = place;
            known[3] = line;
            known[4] = copies;
            known[5] = told;
        }

        /** Goes to the next tell that is no do, and reckons its numbers; false: there is none. */
        boolean next(int tellsDone) {
            for (int step = 0; step < MOST_STEPS; step++) {
                kind = tokens.kindAt(at);
                if (kind == T_DO) {
                    enter(tellsDone);
                } else if (kind == T_END) {
                    turn(tellsDone);
                } else {
                    return reckon();
                }
            }
            return false;
        }

        private void enter(int tellsDone) {
            if (tokens.numberAt(at + 1) == 0 || depth < 0 || depth >= MOST_DOS) {
                at = behindEnd();
                return;
            }
            at += 3;
            bodies[depth] = at;
            rounds[depth] = 0;
            tellsAhead[depth] = tellsDone;
            depth++;
        }

        private int behindEnd() {
            int open = 0;
            for (int n = at; n < tokens.number; n++) {
                int found = tokens.kindAt(n);
                open += found == T_DO ? 1 : 0;
                open -= found == T_END ? 1 : 0;
                if (open == 0) {
                    return n + 2;
                }
            }
            return tokens.number;
        }

        private void turn(int tellsDone) {
            int inner = depth - 1;
            if (inner < 0 || inner >= MOST_DOS) {
                at += 2;
                return;
            }
            rounds[inner]++;
            // A round without a tell: all others are without one, too, and need not be gone through.
            boolean idle = tellsAhead[inner] == tellsDone;
            if (idle || rounds[inner] >= tokens.numberAt(bodies[inner] - 2)) {
                depth--;
                at += 2;
                return;
            }
            tellsAhead[inner] = tellsDone;
            at = bodies[inner];
        }

        private boolean reckon() {
            int which = kind - T_WRITE;
            if (which < 0 || which >= ARGUMENTS.length) {
                return false;
            }
            known[0] = depth > 0 && depth <= MOST_DOS ? rounds[depth - 1] : 0;
            known[1] = depth > 1 && depth <= MOST_DOS ? rounds[depth - 2] : 0;
            at++;
            a = ARGUMENTS[which] > 0 ? sum(0) : 0;
            b = ARGUMENTS[which] > 1 ? sum(0) : 0;
            c = ARGUMENTS[which] > 2 ? sum(0) : 0;
            at++;
            return true;
        }

        private int sum(int level) {
            int total = product(level);
            for (int step = 0; step < MOST_TOKENS; step++) {
                int sign = tokens.kindAt(at);
                if (sign != T_PLUS && sign != T_MINUS) {
                    break;
                }
                at++;
                int more = product(level);
                total = sign == T_PLUS ? total + more : total - more;
            }
            return total;
        }

        private int product(int level) {
            int total = unit(level);
            for (int step = 0; step < MOST_TOKENS; step++) {
                int sign = tokens.kindAt(at);
                if (sign < T_TIMES || sign > T_REST) {
                    break;
                }
                at++;
                int more = unit(level);
                if (sign == T_TIMES) {
                    total = total * more;
                } else if (more == 0) {
                    total = 0;
                } else {
                    total = sign == T_OVER ? total / more : total % more;
                }
            }
            return total;
        }

        private int unit(int level) {
            int found = tokens.kindAt(at);
            if (found == T_OPEN && level < MOST_BRACKETS) {
                at++;
                int inner = sum(level + 1);
                at++;
                return inner;
            }
            int value = tokens.numberAt(at);
            at++;
            int which = found - T_I;
            return which >= 0 && which < known.length ? known[which] : value;
        }
    }
}
