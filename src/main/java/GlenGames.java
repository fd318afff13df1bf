import java.util.Arrays;

/** Games of the glens: the events of one day, their entries and places, purses, yards and sheets. */
public final class GlenGames {
    public static final int BAD = -1, NOT = -2, FULL = -3, NULL = -11, CAST = -12, INDEX = -13, SIZE = -14;

    private static final int THROW = 0, RACE = 1, DANCE = 2;
    private static final int MEN = 10, EVENTS = 8, ENTRIES = 160, TRIES = 6, JUDGES = 3;
    private static final int PARTS = 15, SPELLS = 12, LONGEST_DAY = 60, LONGEST_REST = 6, LAID = 6, PAIRS = 8;
    private static final int LANES = 3, SHEETS = 4, ITEMS = 60, ENTRIES_OF_ROW = 30;
    private static final int BYTES_TYPED = 8, TAPE = 40, SHARES = 6, DIGITS = 3, HUNDRED = 100;
    private static final int PURSE = 100000, YARDS = 50;
    /** An inner check that found nothing wrong; no answer of the face. */
    private static final int WELL = 0;

    private final Programme programme = new Programme();
    private final Ledger ledger = new Ledger();
    private final Board board = new Board();
    private final Tape tape = new Tape();
    private final Shares parted = new Shares();
    private final Sheet[] rows = new Sheet[SHEETS];
    private final int[] given = new int[MEN];

    public GlenGames() {
        for (int i = 0; i < SHEETS; i++) {
            rows[i] = new Sheet();
        }
    }

    // ---- 1 events and the day

    public int event(int kind, int parts, int spells) {
        if (!within(kind, THROW, DANCE) || !within(parts, 1, PARTS) || !within(spells, 1, SPELLS)) {
            return BAD;
        }
        return programme.isFull() ? FULL : programme.add(kind, parts, spells);
    }

    public int enter(int event, int man, boolean is) {
        if (!programme.has(event) || !isMan(man)) {
            return BAD;
        }
        if (!is && ledger.tellsOf(event, man)) {
            return NOT;
        }
        return programme.events[event].put(man, is);
    }

    public int day(int spells, int rest) {
        if (!within(spells, 1, LONGEST_DAY) || !within(rest, 0, LONGEST_REST)) {
            return BAD;
        }
        programme.length = spells;
        programme.rest = rest;
        return 1;
    }

    public int call(int event, int other) {
        if (!programme.has(event) || !programme.has(other) || event == other) {
            return BAD;
        }
        return programme.pairs >= PAIRS ? FULL : programme.pair(event, other);
    }

    public int lay(int events) {
        if (events <= 0 || (events >> programme.count) != 0) {
            return BAD;
        }
        return Integer.bitCount(events) > LAID ? FULL : programme.layBest(events);
    }

    public int begins(int event) {
        if (!programme.has(event) || programme.laid == 0) {
            return BAD;
        }
        return programme.isLaid(event) ? programme.begins[event] : NOT;
    }

    public int order(int i) {
        if (i == -1) {
            return programme.laid;
        }
        return within(i, 0, programme.laid - 1) ? programme.order[i] : BAD;
    }

    public int idle(int man) {
        if (!isMan(man) || programme.laid == 0) {
            return BAD;
        }
        return programme.idleOf(man);
    }

    // ---- 2 entries and places

    public int stone(int event, int grams, int slope) {
        if (!programme.has(event) || !within(grams, 1000, 30000) || !within(slope, -100, 100)) {
            return BAD;
        }
        Event e = programme.events[event];
        if (e.kind != THROW) {
            return CAST;
        }
        e.grams = grams;
        e.slope = slope;
        return 1;
    }

    public int way(int event, int yards) {
        if (!programme.has(event) || !within(yards, 100, 2000)) {
            return BAD;
        }
        Event e = programme.events[event];
        if (e.kind != RACE) {
            return CAST;
        }
        int was = e.way;
        e.way = yards;
        return was;
    }

    public int yards(int man, int yards) {
        if (!isMan(man) || !within(yards, -YARDS, YARDS)) {
            // BAD itself could be a man's yards
            return BAD - 1000;
        }
        int was = given[man];
        given[man] = yards;
        return was;
    }

    public int entry(int event, int man, int a, int b) {
        if (!programme.has(event) || !programme.events[event].takes(man, a, b)) {
            return BAD;
        }
        return ledger.isFullFor(1) ? FULL : ledger.add(event, man, a, b, given[man]);
    }

    public int entries(int event, int sheet, int lane, int i, int n) {
        if (!programme.has(event) || !isSheet(sheet) || !isLane(lane) || !within(n, 0, ENTRIES_OF_ROW)) {
            return BAD;
        }
        Event e = programme.events[event];
        Sheet row = rows[sheet];
        int found = row.foundIn(lane, i, n * e.width());
        if (found != WELL) {
            return found;
        }
        if (!areTaken(e, row, i, n)) {
            return NOT;
        }
        if (ledger.isFullFor(n)) {
            return FULL;
        }
        addAll(e, row, i, n);
        return ledger.count;
    }

    public int mark(int event, int man, int n, int k) {
        if (!programme.has(event) || !isMan(man) || !isAsOf(n)) {
            return BAD;
        }
        Event e = programme.events[event];
        if (!within(k, 0, e.kind == THROW ? TRIES - 1 : 0)) {
            return BAD;
        }
        board.read(ledger, e, n);
        return board.hasMark(man) ? board.markOf(man, k) : NOT;
    }

    public int place(int event, int man, int n) {
        if (!programme.has(event) || !isMan(man) || !isAsOf(n)) {
            return BAD;
        }
        board.read(ledger, programme.events[event], n);
        return board.isTold(man) ? board.places[man] : NOT;
    }

    public int fail(int event, boolean is) {
        if (!programme.has(event)) {
            return BAD;
        }
        int was = programme.events[event].isVoid ? 1 : 0;
        programme.events[event].isVoid = is;
        return was;
    }

    public int paradox(int event, int n) {
        if (!programme.has(event) || !isAsOf(n)) {
            return BAD;
        }
        Event e = programme.events[event];
        if (e.kind != DANCE) {
            return CAST;
        }
        board.read(ledger, e, n);
        return board.leastParadox();
    }

    public int settled(int event) {
        if (!programme.has(event)) {
            return BAD;
        }
        return board.settledFrom(ledger, programme.events[event]);
    }

    // ---- 3 purses, yards, sheets

    public int type(long w, int n) {
        if (!within(n, 1, BYTES_TYPED) || !Tape.isTypable(w, n)) {
            return BAD;
        }
        return tape.isFullFor(n) ? FULL : tape.add(w, n);
    }

    public int shares() {
        int found = tape.read();
        if (found > 0) {
            parted.become(tape.numbers, found);
        }
        tape.length = 0;
        return found;
    }

    public int purse(int event, int pence) {
        if (!programme.has(event) || !within(pence, 0, PURSE)) {
            return BAD;
        }
        int was = programme.events[event].purse;
        programme.events[event].purse = pence;
        return was;
    }

    public int won(int event, int man) {
        if (!programme.has(event) || !isMan(man)) {
            return BAD;
        }
        return winnings(programme.events[event], man);
    }

    public int all(int man) {
        if (!isMan(man)) {
            return BAD;
        }
        int together = 0;
        for (int i = 0; i < programme.count; i++) {
            together += winnings(programme.events[i], man);
        }
        return together;
    }

    public int move(int event, int n) {
        if (!programme.has(event) || !isAsOf(n)) {
            return BAD;
        }
        Event e = programme.events[event];
        if (e.kind != RACE) {
            return CAST;
        }
        board.read(ledger, e, n);
        return moveYards();
    }

    public int sheet(int sheet, int lane, int n) {
        if (!isSheet(sheet) || !isLane(lane) || n > ITEMS) {
            return BAD;
        }
        return n < 0 ? SIZE : rows[sheet].hold(lane, n);
    }

    public int drop(int sheet) {
        if (!isSheet(sheet)) {
            return BAD;
        }
        return rows[sheet].isHolding ? rows[sheet].let() : NULL;
    }

    public int item(int sheet, int lane, int i, int v) {
        if (!isSheet(sheet) || !isLane(lane)) {
            return BAD;
        }
        int found = rows[sheet].foundIn(lane, i, 1);
        if (found != WELL) {
            return found;
        }
        rows[sheet].put(i, v);
        return 1;
    }

    public int told(int event, int what) {
        if (what == 7) {
            return programme.count;
        }
        if (what == 8) {
            return ledger.count;
        }
        return programme.has(event) ? toldOf(programme.events[event], what) : BAD;
    }

    // ---- what the face uses

    private static boolean within(int number, int least, int most) {
        return number >= least && number <= most;
    }

    private static boolean isMan(int man) {
        return within(man, 0, MEN - 1);
    }

    private static boolean isSheet(int sheet) {
        return within(sheet, 0, SHEETS - 1);
    }

    private static boolean isLane(int lane) {
        return within(lane, 0, LANES - 1);
    }

    private boolean isAsOf(int n) {
        return within(n, 0, ledger.count);
    }

    private boolean areTaken(Event e, Sheet row, int i, int n) {
        for (int k = 0; k < n; k++) {
            int at = i + k * e.width();
            if (!e.takes(row.items[at], row.items[at + 1], e.secondOf(row, at))) {
                return false;
            }
        }
        return true;
    }

    private void addAll(Event e, Sheet row, int i, int n) {
        for (int k = 0; k < n; k++) {
            int at = i + k * e.width();
            int man = row.items[at];
            ledger.add(e.number, man, row.items[at + 1], e.secondOf(row, at), given[man]);
        }
    }

    private int winnings(Event e, int man) {
        board.read(ledger, e, ledger.count);
        if (!board.isTold(man)) {
            return 0;
        }
        int place = board.places[man];
        int like = board.howManyAt(place, MEN);
        int together = parted.of(e.purse, place + like - 1) - parted.of(e.purse, place - 1);
        // he is at his own place, so this never holds; it keeps the divisor in sight
        if (like < 1) {
            return 0;
        }
        boolean hasOneMore = board.howManyAt(place, man) < together % like;
        return together / like + (hasOneMore ? 1 : 0);
    }

    private int moveYards() {
        int told = board.howManyTold();
        int changed = 0;
        for (int man = 0; man < MEN; man++) {
            if (board.isTold(man)) {
                int yards = given[man] + 2 * board.places[man] - 1 - told;
                int held = Math.max(-YARDS, Math.min(YARDS, yards));
                changed += held == given[man] ? 0 : 1;
                given[man] = held;
            }
        }
        return changed;
    }

    private int toldOf(Event e, int what) {
        switch (what) {
            case 0: return e.kind;
            case 1: return e.parts;
            case 2: return e.spells;
            case 3: return e.men;
            case 4: return e.purse;
            case 5: return e.isVoid ? 1 : 0;
            case 6:
                board.read(ledger, e, ledger.count);
                return board.howManyTold();
            default: return BAD;
        }
    }

    /** One event; all eight are made with the games, so that no call makes any. */
    private static final class Event {
        final int number;
        int kind, parts, spells, men, purse;
        boolean isVoid;
        int grams = 10000, slope, way = 220;

        Event(int number) {
            this.number = number;
        }

        int put(int man, boolean is) {
            men = is ? men | 1 << man : men & ~(1 << man);
            return Integer.bitCount(men);
        }

        boolean hasMan(int man) {
            return within(man, 0, MEN - 1) && (men >> man & 1) == 1;
        }

        boolean takes(int man, int a, int b) {
            if (!hasMan(man)) {
                return false;
            }
            if (kind == THROW) {
                return within(a, -1, 9999) && within(b, -20, 20);
            }
            if (kind == RACE) {
                return within(a, 1, 9999) && b == 0;
            }
            return within(a, 0, JUDGES - 1) && within(b, 1, 9);
        }

        int width() {
            return kind == RACE ? 2 : 3;
        }

        int secondOf(Sheet row, int at) {
            return kind == RACE ? 0 : row.items[at + 2];
        }

        int fairMark(int tried, int wind) {
            // the product goes beyond an int
            return tried < 0 ? -1 : (int) ((long) tried * (1000 - slope - 2 * wind) * grams / 10000000L);
        }

        int raceMark(int time, int ahead) {
            int left = way - ahead;
            // a way is 100 at least and yards 50 at most: this only keeps the divisor in sight
            return left < 1 ? time : time * way / left;
        }
    }

    /** The events, the day, and the order of the latest lay that told a spell. */
    private static final class Programme {
        private static final int NO_SPELL = 1000;

        final Event[] events = new Event[EVENTS];
        int count;
        int length = LONGEST_DAY, rest = 1;
        int pairs;
        final int[] order = new int[LAID];
        final int[] begins = new int[EVENTS];
        int laid;
        private int laidBits;
        private int bestEnd;
        private final int[] calledAhead = new int[EVENTS];
        private final int[] triedOrder = new int[LAID];
        private final int[] triedBegins = new int[EVENTS];

        Programme() {
            for (int i = 0; i < EVENTS; i++) {
                events[i] = new Event(i);
            }
        }

        boolean has(int event) {
            return event >= 0 && event < count;
        }

        boolean isFull() {
            return count >= EVENTS;
        }

        int add(int kind, int parts, int spells) {
            Event e = events[count];
            e.kind = kind;
            e.parts = parts;
            e.spells = spells;
            count++;
            return e.number;
        }

        int pair(int event, int other) {
            calledAhead[other] |= 1 << event;
            pairs++;
            return pairs;
        }

        boolean isLaid(int event) {
            return (laidBits >> event & 1) == 1;
        }

        int layBest(int bits) {
            bestEnd = NO_SPELL;
            search(bits, 0, 0);
            if (bestEnd == NO_SPELL) {
                return NOT;
            }
            laidBits = bits;
            return bestEnd;
        }

        private void search(int left, int depth, int end) {
            if (left == 0) {
                keep(depth, end);
                return;
            }
            for (int e = 0; e < EVENTS && depth < LAID; e++) {
                if ((left >> e & 1) == 1) {
                    searchBehind(e, left & ~(1 << e), depth, end);
                }
            }
        }

        /** Orders come by numbers of events, so one is followed only while it may end sooner than the best. */
        private void searchBehind(int event, int left, int depth, int end) {
            int at = firstFit(event, depth);
            int endsNow = Math.max(end, at + events[event].spells);
            if (endsNow <= length && endsNow < bestEnd) {
                triedOrder[depth] = event;
                triedBegins[event] = at;
                search(left, depth + 1, endsNow);
            }
        }

        private void keep(int depth, int end) {
            bestEnd = end;
            laid = depth;
            System.arraycopy(triedOrder, 0, order, 0, LAID);
            System.arraycopy(triedBegins, 0, begins, 0, EVENTS);
        }

        /** Every push goes to the first spell that one laid event leaves free, so none that fits is passed over. */
        private int firstFit(int event, int depth) {
            int at = 0;
            for (int turn = 0; turn <= LONGEST_DAY && at < length; turn++) {
                int pushed = at;
                for (int i = 0; i < depth; i++) {
                    pushed = pushedBy(triedOrder[i], event, pushed);
                }
                if (pushed == at) {
                    return at;
                }
                at = pushed;
            }
            return NO_SPELL;
        }

        private int pushedBy(int other, int event, int at) {
            Event e = events[event];
            Event o = events[other];
            int over = at + e.spells;
            int otherBegins = triedBegins[other];
            int otherOver = otherBegins + o.spells;
            if ((calledAhead[other] >> event & 1) == 1 && over > otherBegins) {
                return NO_SPELL;
            }
            if ((calledAhead[event] >> other & 1) == 1 && at < otherOver) {
                return otherOver;
            }
            if ((e.men & o.men) != 0 && at < otherOver + rest && otherBegins < over + rest) {
                return otherOver + rest;
            }
            // one that is laid further on leaves its parts free ahead of its beginning, as it does its men
            if ((e.parts & o.parts) != 0 && at < otherOver && otherBegins < over) {
                return otherOver;
            }
            return at;
        }

        int idleOf(int man) {
            long busy = 0;
            int first = LONGEST_DAY;
            int last = 0;
            for (int i = 0; i < laid; i++) {
                Event e = events[order[i]];
                if (e.hasMan(man)) {
                    int at = begins[e.number];
                    // he may have been entered since, so his events may overlap: spells count once
                    busy |= ((1L << e.spells) - 1) << at;
                    first = Math.min(first, at);
                    last = Math.max(last, at + e.spells);
                }
            }
            return busy == 0 ? NOT : last - first - Long.bitCount(busy);
        }
    }

    /** All entries, as they came. */
    private static final class Ledger {
        final int[] events = new int[ENTRIES];
        final int[] men = new int[ENTRIES];
        final int[] firsts = new int[ENTRIES];
        final int[] seconds = new int[ENTRIES];
        final int[] yards = new int[ENTRIES];
        int count;

        boolean isFullFor(int n) {
            return count + n > ENTRIES;
        }

        int add(int event, int man, int a, int b, int ahead) {
            int at = count;
            events[at] = event;
            men[at] = man;
            firsts[at] = a;
            seconds[at] = b;
            yards[at] = ahead;
            count++;
            return at;
        }

        boolean tellsOf(int event, int man) {
            for (int i = 0; i < count; i++) {
                if (events[i] == event && men[i] == man) {
                    return true;
                }
            }
            return false;
        }
    }

    /** Marks and places of one event as of a number, worked out anew by each reading. */
    private static final class Board {
        final int[] places = new int[MEN];
        private final int[] marks = new int[MEN * TRIES];
        private final int[] counted = new int[MEN];
        private final int[] judged = new int[MEN * JUDGES];
        private final int[] lastPlaces = new int[MEN];

        void read(Ledger ledger, Event e, int n) {
            Arrays.fill(marks, -1);
            Arrays.fill(counted, 0);
            Arrays.fill(judged, 0);
            // backwards, as the latest count
            for (int i = Math.min(n, ledger.count) - 1; i >= 0; i--) {
                if (ledger.events[i] == e.number) {
                    take(ledger, e, i);
                }
            }
            if (e.kind == DANCE) {
                joinJudges();
            }
            rank(e);
        }

        private void take(Ledger ledger, Event e, int i) {
            int man = ledger.men[i];
            if (e.kind == DANCE) {
                int at = man * JUDGES + ledger.firsts[i];
                judged[at] = judged[at] == 0 ? ledger.seconds[i] : judged[at];
            } else if (e.kind == THROW && counted[man] < TRIES) {
                insert(man, e.fairMark(ledger.firsts[i], ledger.seconds[i]));
                counted[man]++;
            } else if (e.kind == RACE && counted[man] == 0) {
                marks[man * TRIES] = e.raceMark(ledger.firsts[i], ledger.yards[i]);
                counted[man] = 1;
            }
        }

        private void insert(int man, int mark) {
            int first = man * TRIES;
            int at = first + counted[man];
            while (at > first && marks[at - 1] < mark) {
                marks[at] = marks[at - 1];
                at--;
            }
            marks[at] = mark;
        }

        private void joinJudges() {
            for (int man = 0; man < MEN; man++) {
                int a = judged[man * JUDGES];
                int b = judged[man * JUDGES + 1];
                int c = judged[man * JUDGES + 2];
                if (a > 0 && b > 0 && c > 0) {
                    int middle = Math.max(Math.min(a, b), Math.min(Math.max(a, b), c));
                    marks[man * TRIES] = 100 * middle + a + b + c;
                    counted[man] = 1;
                }
            }
        }

        private void rank(Event e) {
            for (int man = 0; man < MEN; man++) {
                places[man] = e.isVoid || counted[man] == 0 ? 0 : 1 + howManyAheadOf(man, e);
            }
        }

        private int howManyAheadOf(int man, Event e) {
            int ahead = 0;
            for (int other = 0; other < MEN; other++) {
                if (counted[other] > 0 && isAhead(other, man, e)) {
                    ahead++;
                }
            }
            return ahead;
        }

        private boolean isAhead(int man, int other, Event e) {
            if (e.kind != THROW) {
                return markOf(man, 0) < markOf(other, 0);
            }
            for (int k = 0; k < TRIES; k++) {
                if (markOf(man, k) != markOf(other, k)) {
                    return markOf(man, k) > markOf(other, k);
                }
            }
            return false;
        }

        boolean hasMark(int man) {
            return counted[man] > 0;
        }

        int markOf(int man, int k) {
            return marks[man * TRIES + k];
        }

        boolean isTold(int man) {
            return places[man] > 0;
        }

        int howManyTold() {
            return MEN - howManyAt(0, MEN);
        }

        int howManyAt(int place, int below) {
            int found = 0;
            for (int man = 0; man < below; man++) {
                found += places[man] == place ? 1 : 0;
            }
            return found;
        }

        int leastParadox() {
            for (int man = 0; man < MEN; man++) {
                // whoever is told and not at place 1 has another one ahead of him
                if (places[man] > 1 && beatsAll(man)) {
                    return man;
                }
            }
            return NOT;
        }

        private boolean beatsAll(int man) {
            for (int other = 0; other < MEN; other++) {
                if (other != man && isTold(other) && judgesFor(man, other) < 2) {
                    return false;
                }
            }
            return true;
        }

        private int judgesFor(int man, int other) {
            int found = 0;
            for (int judge = 0; judge < JUDGES; judge++) {
                found += judged[man * JUDGES + judge] < judged[other * JUDGES + judge] ? 1 : 0;
            }
            return found;
        }

        int settledFrom(Ledger ledger, Event e) {
            read(ledger, e, ledger.count);
            System.arraycopy(places, 0, lastPlaces, 0, MEN);
            for (int n = ledger.count; n > 0; n--) {
                // an entry of another event moves nobody here
                if (ledger.events[n - 1] == e.number) {
                    read(ledger, e, n - 1);
                    if (!arePlacesAsLast()) {
                        return n;
                    }
                }
            }
            return 0;
        }

        private boolean arePlacesAsLast() {
            for (int man = 0; man < MEN; man++) {
                if (places[man] != lastPlaces[man]) {
                    return false;
                }
            }
            return true;
        }
    }

    /** The tape, and the numbers of its latest reading. */
    private static final class Tape {
        private static final int BLANK = 32, LAST_SIGN = 126, FAULTS = -20;

        final int[] numbers = new int[SHARES];
        int length;
        private final int[] signs = new int[TAPE];

        static boolean isTypable(long w, int n) {
            for (int i = 0; i < n; i++) {
                if (!within(byteOf(w, i), BLANK, LAST_SIGN)) {
                    return false;
                }
            }
            return true;
        }

        private static int byteOf(long w, int i) {
            return (int) (w >> 8 * i & 255);
        }

        boolean isFullFor(int n) {
            return length + n > TAPE;
        }

        int add(long w, int n) {
            for (int i = n - 1; i >= 0; i--) {
                signs[length] = byteOf(w, i);
                length++;
            }
            return length;
        }

        /** How many numbers there are, or the fault. */
        int read() {
            int at = 0;
            int together = 0;
            for (int found = 0; found < SHARES; found++) {
                at = behindBlanks(at);
                int end = behindDigits(at);
                if (end == at || end - at > DIGITS) {
                    return FAULTS - at;
                }
                numbers[found] = numberOf(at, end);
                together += numbers[found];
                if (together > HUNDRED) {
                    return FAULTS - at;
                }
                at = behindBlanks(end);
                if (at == length) {
                    return found + 1;
                }
                if (signs[at] != ',' || found == SHARES - 1) {
                    return FAULTS - at;
                }
                at++;
            }
            return FAULTS - at;
        }

        private int behindBlanks(int from) {
            int at = from;
            while (at < length && signs[at] == BLANK) {
                at++;
            }
            return at;
        }

        private int behindDigits(int from) {
            int at = from;
            while (at < length && within(signs[at], '0', '9')) {
                at++;
            }
            return at;
        }

        private int numberOf(int from, int end) {
            int number = 0;
            for (int i = from; i < end; i++) {
                number = number * 10 + signs[i] - '0';
            }
            return number;
        }
    }

    /** The hundredths by which purses are parted. */
    private static final class Shares {
        private final int[] hundredths = {60, 30, 10, 0, 0, 0};
        private int count = 3;

        void become(int[] numbers, int found) {
            System.arraycopy(numbers, 0, hundredths, 0, found);
            count = found;
        }

        /** What the first shares together are of a purse: parts are told as differences of these, so none is lost. */
        int of(int purse, int first) {
            int together = 0;
            for (int i = 0; i < first && i < count; i++) {
                together += hundredths[i];
            }
            return purse * together / HUNDRED;
        }
    }

    /** A sheet; its items are kept as ints cut to the lane, so that a new row makes no array. */
    private static final class Sheet {
        final int[] items = new int[ITEMS];
        boolean isHolding;
        private int lane;
        private int size;

        int hold(int newLane, int n) {
            isHolding = true;
            lane = newLane;
            size = n;
            Arrays.fill(items, 0);
            return n;
        }

        int let() {
            isHolding = false;
            return size;
        }

        /** What a machine finds that takes n items from i on of a row of a lane. */
        int foundIn(int asLane, int i, int n) {
            if (!isHolding) {
                return NULL;
            }
            if (lane != asLane) {
                return CAST;
            }
            return i < 0 || n > size - i ? INDEX : WELL;
        }

        void put(int i, int v) {
            items[i] = lane == 0 ? (byte) v : lane == 1 ? (short) v : v;
        }
    }
}
