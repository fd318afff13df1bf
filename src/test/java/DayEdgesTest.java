/** Promises 1 to 9: each sentence that names a boundary case has a test of its own here. */
public final class DayEdgesTest {
    private static final int BAD = -1, NOT = -2, FULL = -3;
    private static final int LEAST = Integer.MIN_VALUE, MOST = Integer.MAX_VALUE;

    public static void main(String[] args) {
        statesAreAsMeant();
        newObjectHasNoEvents();
        newObjectHasNothingElse();
        eventNumbers();
        eventKinds();
        eventParts();
        eventSpells();
        eventFull();
        enterMen();
        enterEvents();
        enterNoneAndAll();
        enterNotWithEntries();
        daySpells();
        dayRest();
        callEvents();
        callOne();
        callFull();
        layNone();
        layNotThere();
        laySixAtMost();
        layNoOrder();
        layByTheDaysEnd();
        layEachPart();
        layIntoAGap();
        layEachMan();
        layRestBehind();
        layRestAhead();
        layCalledOver();
        layCalledBothLaid();
        layStays();
        layEndsFirst();
        layFirstByNumbers();
        beginsAheadOfLay();
        beginsEvents();
        beginsNotAmong();
        orderAheadOfLay();
        orderIndexes();
        refusedLayKeepsTheLatest();
        idleAheadOfLay();
        idleMen();
        idleInNone();
        idleOfOneAndOfTwo();
        idleWholeDay();
        idleOfThoseEnteredNow();
        Due.end();
    }

    private static void add(GlenGames x, int parts, int spells, int... men) {
        int event = x.event(0, parts, spells);
        for (int man : men) {
            x.enter(event, man, true);
        }
    }

    /** Lays and holds the end, then the order and where its events begin. */
    private static void laid(String name, GlenGames x, int bits, int end, int[] order, int[] begins) {
        Due.is(name + ": lay", x.lay(bits), end);
        Due.is(name + ": how many", x.order(-1), order.length);
        for (int i = 0; i < order.length; i++) {
            Due.is(name + ": order(" + i + ")", x.order(i), order[i]);
            Due.is(name + ": begins(" + order[i] + ")", x.begins(order[i]), begins[i]);
        }
    }

    private static int[] of(int... numbers) {
        return numbers;
    }

    /** The tests of refused calls are worth nothing where the states are not full as their names say. */
    private static void statesAreAsMeant() {
        Due.is("standing: events", Games.standing().told(0, 7), 5);
        Due.is("standing: lay", Games.standing().lay(31), 23);
        Due.is("standing: paradox", Games.standing().paradox(2, 13), 4);
        Due.is("eight events", Games.withEightEvents().told(0, 7), 8);
        Due.is("eight pairs", Games.withEightPairs().call(0, 1), FULL);
        Due.is("all entries", Games.withAllEntries().told(0, 8), 160);
        Due.is("a full tape", Games.withFullTape().type(' ', 1), FULL);
        for (int which = 0; which < Look.LOOKS; which++) {
            Due.holds("looks see the text", Look.at(Games.standing(), which).length > 100);
        }
    }

    // ---- promise 1: a new object

    private static void newObjectHasNoEvents() {
        Due.is("events", Games.bare().told(0, 7), 0);
        Refused.is("new: enter", Games::bare, x -> x.enter(0, 0, true), BAD);
        Refused.is("new: call", Games::bare, x -> x.call(0, 1), BAD);
        Refused.is("new: lay", Games::bare, x -> x.lay(1), BAD);
        Refused.is("new: stone", Games::bare, x -> x.stone(0, 1000, 0), BAD);
        Refused.is("new: way", Games::bare, x -> x.way(0, 100), BAD);
        Refused.is("new: entry", Games::bare, x -> x.entry(0, 0, 1, 0), BAD);
        Refused.is("new: entries", Games::bare, x -> x.entries(0, 0, 0, 0, 0), BAD);
        Refused.is("new: mark", Games::bare, x -> x.mark(0, 0, 0, 0), BAD);
        Refused.is("new: place", Games::bare, x -> x.place(0, 0, 0), BAD);
        Refused.is("new: fail", Games::bare, x -> x.fail(0, true), BAD);
        Refused.is("new: paradox", Games::bare, x -> x.paradox(0, 0), BAD);
        Refused.is("new: settled", Games::bare, x -> x.settled(0), BAD);
        Refused.is("new: purse", Games::bare, x -> x.purse(0, 1), BAD);
        Refused.is("new: won", Games::bare, x -> x.won(0, 0), BAD);
        Refused.is("new: move", Games::bare, x -> x.move(0, 0), BAD);
        Refused.is("new: begins", Games::bare, x -> x.begins(0), BAD);
        for (int what = 0; what <= 6; what++) {
            Due.is("new: told " + what, Games.bare().told(0, what), BAD);
        }
    }

    private static void newObjectHasNothingElse() {
        GlenGames x = Games.bare();
        Due.is("entries", x.told(0, 8), 0);
        Due.is("order", x.order(-1), 0);
        for (int man = 0; man < 10; man++) {
            Due.is("yards", x.yards(man, 0), 0);
            Due.is("all", x.all(man), 0);
        }
        for (int sheet = 0; sheet < 4; sheet++) {
            Due.is("a sheet holds nothing", x.drop(sheet), -11);
        }
        Due.is("pairs: the first is the first", pairsOfNew(), 1);
        Due.is("the tape is empty", x.type(' ', 1), 1);
    }

    private static int pairsOfNew() {
        return Games.ofKinds(0, 0).call(0, 1);
    }

    // ---- promise 2: event

    private static void eventNumbers() {
        GlenGames x = Games.bare();
        for (int i = 0; i < 8; i++) {
            Due.is("there is no event " + i + " yet", x.told(i, 0), BAD);
            Due.is("event " + i, x.event(i % 3, 1, 1), i);
            Due.is("its kind", x.told(i, 0), i % 3);
            Due.is("no men at first", x.told(i, 3), 0);
            Due.is("no purse at first", x.told(i, 4), 0);
            Due.is("not void at first", x.told(i, 5), 0);
            Due.is("nobody told at first", x.told(i, 6), 0);
            Due.is("how many", x.told(0, 7), i + 1);
        }
    }

    private static void eventKinds() {
        Refused.is("kind -1", x -> x.event(-1, 1, 1), BAD);
        Refused.is("kind 3", x -> x.event(3, 1, 1), BAD);
        Refused.is("kind least", x -> x.event(LEAST, 1, 1), BAD);
        Refused.is("kind most", x -> x.event(MOST, 1, 1), BAD);
        Due.is("kind 0", Games.standing().event(0, 1, 1), 5);
        Due.is("kind 2", Games.standing().event(2, 1, 1), 5);
    }

    private static void eventParts() {
        Refused.is("parts 0", x -> x.event(0, 0, 1), BAD);
        Refused.is("parts 16", x -> x.event(0, 16, 1), BAD);
        Refused.is("parts 17", x -> x.event(0, 17, 1), BAD);
        Refused.is("parts -1", x -> x.event(0, -1, 1), BAD);
        Refused.is("parts least", x -> x.event(0, LEAST, 1), BAD);
        GlenGames x = Games.bare();
        Due.is("parts 1", x.event(0, 1, 1), 0);
        Due.is("parts 15", x.event(0, 15, 1), 1);
        Due.is("parts 1 told", x.told(0, 1), 1);
        Due.is("parts 15 told", x.told(1, 1), 15);
    }

    private static void eventSpells() {
        Refused.is("spells 0", x -> x.event(0, 1, 0), BAD);
        Refused.is("spells 13", x -> x.event(0, 1, 13), BAD);
        Refused.is("spells -1", x -> x.event(0, 1, -1), BAD);
        Refused.is("spells most", x -> x.event(0, 1, MOST), BAD);
        GlenGames x = Games.bare();
        Due.is("spells 1", x.event(0, 1, 1), 0);
        Due.is("spells 12", x.event(0, 1, 12), 1);
        Due.is("spells 1 told", x.told(0, 2), 1);
        Due.is("spells 12 told", x.told(1, 2), 12);
    }

    private static void eventFull() {
        Refused.is("a ninth", Games::withEightEvents, x -> x.event(0, 1, 1), FULL);
        Refused.is("a ninth of kind 3: BAD comes first", Games::withEightEvents, x -> x.event(3, 1, 1), BAD);
        Refused.is("a ninth of no part: BAD comes first", Games::withEightEvents, x -> x.event(0, 0, 1), BAD);
        Refused.is("a ninth of no spell: BAD comes first", Games::withEightEvents, x -> x.event(0, 1, 0), BAD);
    }

    // ---- promise 3: enter

    private static void enterMen() {
        for (int man : Games.NO_MEN) {
            Refused.is("enter man " + man, x -> x.enter(0, man, true), BAD);
            Refused.is("enter man " + man + ", not any more", x -> x.enter(0, man, false), BAD);
        }
        GlenGames x = Games.ofKinds(0);
        Due.is("man 0", x.enter(0, 0, true), 1);
        Due.is("man 9", x.enter(0, 9, true), 2);
        Due.is("men 0 and 9", x.told(0, 3), 513);
    }

    private static void enterEvents() {
        for (int event : Games.NO_EVENTS) {
            Refused.is("enter event " + event, x -> x.enter(event, 0, true), BAD);
            Refused.is("enter event " + event + ", not any more", x -> x.enter(event, 0, false), BAD);
        }
        Refused.is("enter event 8 of eight", Games::withEightEvents, x -> x.enter(8, 0, true), BAD);
        GlenGames x = Games.withEightEvents();
        Due.is("event 7 of eight", x.enter(7, 6, true), 1);
        Due.is("event 7 has him", x.told(7, 3), 64);
        Due.is("event 6 has not", x.told(6, 3), 0);
    }

    private static void enterNoneAndAll() {
        GlenGames x = Games.ofKinds(0);
        Due.is("none is entered, and one is not any more", x.enter(0, 4, false), 0);
        for (int man = 0; man < 10; man++) {
            Due.is("enter " + man, x.enter(0, man, true), man + 1);
            Due.is("enter " + man + " again", x.enter(0, man, true), man + 1);
        }
        Due.is("all ten", x.told(0, 3), 1023);
        for (int man = 9; man >= 0; man--) {
            Due.is(man + " not any more", x.enter(0, man, false), man);
        }
        Due.is("none", x.told(0, 3), 0);
    }

    private static void enterNotWithEntries() {
        Refused.is("he has entries in it", x -> x.enter(0, 0, false), NOT);
        Refused.is("he has an entry in it", x -> x.enter(1, 3, false), NOT);
        Refused.is("he has entries of a dance", x -> x.enter(2, 4, false), NOT);
        Due.is("he has entries in it and is to be", Games.standing().enter(0, 0, true), 4);
        Due.is("he has entries in another event alone", Games.standing().enter(3, 0, false), 1);
        Due.is("others have entries in it", Games.standing().enter(2, 9, false), 2);
        GlenGames x = Games.three();
        x.entry(1, 9, 5, 0);
        Due.is("the first entry of all", x.enter(1, 9, false), NOT);
        GlenGames full = Games.withAllEntries();
        full.enter(0, 3, false);
        Due.is("the last entry of all", full.enter(1, 0, false), NOT);
    }

    // ---- promise 4: day

    private static void daySpells() {
        for (int spells : of(0, 61, -1, LEAST, MOST)) {
            Refused.is("day of " + spells, x -> x.day(spells, 0), BAD);
        }
        GlenGames x = Games.ofKinds(0, 0);
        Due.is("day of 1", x.day(1, 0), 1);
        Due.is("one of 1 in a day of 1", x.lay(1), 1);
        Due.is("two of 1 in a day of 1", x.lay(3), NOT);
        Due.is("day of 2", x.day(2, 0), 1);
        Due.is("two of 1 in a day of 2", x.lay(3), 2);
        GlenGames y = Games.bare();
        for (int i = 0; i < 5; i++) {
            y.event(0, 1, 12);
        }
        y.event(0, 1, 1);
        Due.is("60 at first", y.lay(31), 60);
        Due.is("61 do not go into 60 at first", y.lay(63), NOT);
        Due.is("day of 59", y.day(59, 1), 1);
        Due.is("60 in a day of 59", y.lay(31), NOT);
        Due.is("day of 60", y.day(60, 1), 1);
        Due.is("60 in a day of 60", y.lay(31), 60);
    }

    private static void dayRest() {
        for (int rest : of(-1, 7, LEAST, MOST)) {
            Refused.is("rest of " + rest, x -> x.day(30, rest), BAD);
        }
        GlenGames x = Games.bare();
        add(x, 1, 1, 0);
        add(x, 2, 1, 0);
        Due.is("1 at first", x.lay(3), 3);
        Due.is("rest of 0", x.day(60, 0), 1);
        Due.is("no rest", x.lay(3), 2);
        Due.is("rest of 6", x.day(60, 6), 1);
        Due.is("six spells of rest", x.lay(3), 8);
    }

    // ---- promise 5: call

    private static void callEvents() {
        for (int event : Games.NO_EVENTS) {
            Refused.is("call " + event, x -> x.call(event, 0), BAD);
            Refused.is("call ahead of " + event, x -> x.call(0, event), BAD);
        }
        Due.is("the first ahead of the last", Games.standing().call(0, 4), 3);
        Due.is("the last ahead of the first", Games.standing().call(4, 0), 3);
        Due.is("7 ahead of 0 of eight", Games.withEightEvents().call(7, 0), 3);
    }

    private static void callOne() {
        Refused.is("one ahead of itself", x -> x.call(3, 3), BAD);
        Refused.is("the first ahead of itself", x -> x.call(0, 0), BAD);
        GlenGames x = Games.ofKinds(0, 0);
        Due.is("a pair", x.call(0, 1), 1);
        Due.is("the same pair again", x.call(0, 1), 2);
        Due.is("the same the other way round", x.call(1, 0), 3);
        Due.is("both ways: no order", x.lay(3), NOT);
    }

    private static void callFull() {
        Refused.is("a ninth pair", Games::withEightPairs, x -> x.call(0, 1), FULL);
        Refused.is("a ninth pair that is one: BAD comes first", Games::withEightPairs, x -> x.call(0, 0), BAD);
        Refused.is("a ninth pair of 5: BAD comes first", Games::withEightPairs, x -> x.call(5, 0), BAD);
        GlenGames x = Games.ofKinds(0, 0, 0);
        for (int i = 1; i <= 7; i++) {
            Due.is("pair " + i, x.call(0, 1), i);
        }
        Due.is("the eighth", x.call(2, 0), 8);
        Due.is("the ninth", x.call(1, 2), FULL);
        laid("the eighth counts, the ninth does not", x, 7, 3, of(2, 0, 1), of(0, 1, 2));
    }

    // ---- promise 6: lay

    private static void layNone() {
        Refused.is("lay none", x -> x.lay(0), BAD);
        Due.is("lay one", Games.standing().lay(1), 4);
    }

    private static void layNotThere() {
        Refused.is("event 5 of five", x -> x.lay(32), BAD);
        Refused.is("event 5 of five and one that is there", x -> x.lay(33), BAD);
        Refused.is("event 8 of eight", Games::withEightEvents, x -> x.lay(256), BAD);
        Refused.is("bit 30", x -> x.lay(1 << 30), BAD);
        Refused.is("bit 31", x -> x.lay(LEAST), BAD);
        Refused.is("bit 31 and one that is there", x -> x.lay(LEAST + 1), BAD);
        Refused.is("all bits", x -> x.lay(-1), BAD);
        Due.is("event 4 of five", Games.standing().lay(16), 2);
        Due.is("event 7 of eight", Games.withEightEvents().lay(128), 7);
    }

    private static void laySixAtMost() {
        Refused.is("seven", Games::withEightEvents, x -> x.lay(127), FULL);
        Refused.is("eight", Games::withEightEvents, x -> x.lay(255), FULL);
        Refused.is("seven and one that is not there: BAD comes first", Games::withEightEvents, x -> x.lay(383), BAD);
        GlenGames x = Games.ofKinds(0, 1, 2, 0, 1, 2, 0, 1);
        laid("six", x, 63, 6, of(0, 1, 2, 3, 4, 5), of(0, 1, 2, 3, 4, 5));
        laid("the last six", x, 252, 6, of(2, 3, 4, 5, 6, 7), of(0, 1, 2, 3, 4, 5));
        x.day(1, 0);
        Due.is("seven that no order lays: FULL comes first", x.lay(127), FULL);
        Due.is("six that no order lays", x.lay(63), NOT);
    }

    private static void layNoOrder() {
        Refused.is("28 spells on one part", Games::withEightEvents, x -> x.lay(1 | 4 | 32 | 128), NOT);
        Refused.is("24 spells on one part, one too many", Games::withEightEvents, x -> x.lay(4 | 32 | 128), NOT);
        Due.is("23 spells on one part", Games.withEightEvents().lay(1 | 32 | 128), 23);
    }

    private static void layByTheDaysEnd() {
        GlenGames x = Games.bare();
        add(x, 1, 12);
        add(x, 1, 1);
        x.day(12, 0);
        Due.is("ends with the day", x.lay(1), 12);
        x.day(11, 0);
        Due.is("one spell too long for the day", x.lay(1), NOT);
        x.day(13, 0);
        laid("the last spell of the day", x, 3, 13, of(0, 1), of(0, 12));
        x.day(12, 0);
        Due.is("one spell too many", x.lay(3), NOT);
    }

    private static void layEachPart() {
        for (int part = 0; part < 4; part++) {
            GlenGames x = Games.bare();
            add(x, 1 << part, 3);
            add(x, 1 << part, 2);
            add(x, 15 ^ 1 << part, 4);
            laid("part " + part + " of both: begins as the other is over", x, 3, 5, of(0, 1), of(0, 3));
            laid("all parts but " + part, x, 5, 4, of(0, 2), of(0, 0));
            GlenGames y = Games.bare();
            add(y, 15, 3);
            add(y, 1 << part, 2);
            laid("part " + part + " and all parts", y, 3, 5, of(0, 1), of(0, 3));
        }
    }

    /** Event 1 stands at 4 .. 5 and leaves part 1 free at 0 .. 3: four spells go there, five do not. */
    private static void layIntoAGap() {
        GlenGames x = Games.bare();
        add(x, 1, 4);
        add(x, 3, 2);
        add(x, 2, 4);
        add(x, 2, 5);
        laid("a gap that is just long enough", x, 7, 6, of(0, 1, 2), of(0, 4, 0));
        laid("a gap that is one too short", x, 11, 7, of(0, 3, 1), of(0, 0, 5));
        x.call(0, 1);
        x.call(1, 3);
        laid("one too long for the gap goes behind it", x, 11, 11, of(0, 1, 3), of(0, 4, 6));
    }

    private static void layEachMan() {
        for (int man = 0; man < 10; man++) {
            GlenGames x = Games.bare();
            add(x, 1, 2, man);
            add(x, 2, 3, man);
            add(x, 4, 3, (man + 1) % 10);
            laid("man " + man + " of both", x, 3, 6, of(0, 1), of(0, 3));
            laid("another man", x, 5, 3, of(0, 2), of(0, 0));
        }
    }

    private static void layRestBehind() {
        for (int rest = 0; rest <= 6; rest++) {
            GlenGames x = Games.bare();
            add(x, 1, 2, 0);
            add(x, 2, 2, 0);
            x.day(4 + rest, rest);
            laid("rest of " + rest + " behind", x, 3, 4 + rest, of(0, 1), of(0, 2 + rest));
            x.day(3 + rest, rest);
            Due.is("a spell less than rest of " + rest, x.lay(3), NOT);
        }
    }

    /** Event 1 is laid at 6 .. 7 behind event 0; event 2, of 3 spells, shares a man with it and goes ahead of it. */
    private static void layRestAhead() {
        GlenGames y = Games.bare();
        add(y, 1, 6);
        add(y, 1, 2, 9);
        add(y, 2, 3, 9);
        y.call(0, 1);
        y.day(8, 3);
        laid("rest of 3 ahead", y, 7, 8, of(0, 1, 2), of(0, 6, 0));
        y.day(60, 4);
        laid("rest of 4 is one too many ahead", y, 7, 9, of(0, 2, 1), of(0, 0, 7));
    }

    private static void layCalledOver() {
        GlenGames x = Games.bare();
        add(x, 1, 3);
        add(x, 2, 2);
        x.day(5, 6);
        x.call(0, 1);
        laid("the other begins as the one is over, without rest", x, 3, 5, of(0, 1), of(0, 3));
        x.day(4, 6);
        Due.is("a spell less", x.lay(3), NOT);
        GlenGames y = Games.bare();
        add(y, 1, 4);
        add(y, 1, 1);
        add(y, 2, 4);
        add(y, 2, 5);
        y.call(0, 1);
        y.call(2, 1);
        laid("over just at the beginning of one that is laid", y, 7, 5, of(0, 1, 2), of(0, 4, 0));
        y.call(3, 1);
        laid("over a spell too late", y, 11, 6, of(0, 3, 1), of(0, 0, 5));
    }

    private static void layCalledBothLaid() {
        GlenGames x = Games.bare();
        add(x, 1, 3);
        add(x, 2, 3);
        add(x, 4, 3);
        x.call(0, 1);
        x.call(1, 2);
        laid("both are laid", x, 3, 6, of(0, 1), of(0, 3));
        laid("one between is not laid", x, 5, 3, of(0, 2), of(0, 0));
        laid("the other is not laid", x, 1, 3, of(0), of(0));
        laid("the one is not laid", x, 2, 3, of(1), of(0));
        x.call(2, 0);
        Due.is("a ring", x.lay(7), NOT);
        laid("a part of the ring", x, 5, 6, of(2, 0), of(0, 3));
    }

    /** Were 1 moved on to make room for 2 ahead of it, all would end at 4 as well, in the order 0, 1, 2. */
    private static void layStays() {
        GlenGames x = Games.bare();
        add(x, 1, 1);
        add(x, 2, 1);
        add(x, 4, 3);
        x.call(2, 1);
        laid("one that is laid stays where it is", x, 7, 4, of(0, 2, 1), of(0, 0, 3));
    }

    private static void layEndsFirst() {
        GlenGames x = Games.bare();
        add(x, 1, 1, 0);
        add(x, 2, 5, 0);
        x.day(60, 6);
        laid("by numbers 0 first; all orders end alike", x, 3, 12, of(0, 1), of(0, 7));
        GlenGames y = Games.bare();
        add(y, 3, 2);
        add(y, 1, 3, 7);
        add(y, 4, 6, 7);
        y.day(60, 1);
        laid("a later order that ends sooner", y, 7, 10, of(0, 2, 1), of(0, 0, 7));
    }

    private static void layFirstByNumbers() {
        GlenGames x = Games.bare();
        for (int i = 0; i < 4; i++) {
            add(x, 1 << i, 2);
        }
        laid("all orders are alike", x, 15, 2, of(0, 1, 2, 3), of(0, 0, 0, 0));
        x.call(1, 0);
        laid("the first of those in which 1 is ahead of 0", x, 15, 4, of(1, 0, 2, 3), of(0, 2, 0, 0));
        laid("numbers with a gap between", x, 10, 2, of(1, 3), of(0, 0));
    }

    // ---- promises 7 and 8: begins, order

    private static void beginsAheadOfLay() {
        GlenGames x = Games.ofKinds(0, 0);
        Due.is("begins ahead of a lay", x.begins(0), BAD);
        x.event(0, 1, 12);
        x.day(5, 0);
        Due.is("a lay that told no spell", x.lay(4), NOT);
        Due.is("is none: begins", x.begins(2), BAD);
        Due.is("is none: begins", x.begins(0), BAD);
        Due.is("is none: order", x.order(-1), 0);
        Due.is("is none: order", x.order(0), BAD);
        Due.is("is none: idle", x.idle(0), BAD);
        Due.is("a lay that is refused", x.lay(8), BAD);
        Due.is("is none as well", x.begins(0), BAD);
        Due.is("a lay that told one", x.lay(2), 1);
        Due.is("begins behind it", x.begins(1), 0);
    }

    private static void beginsEvents() {
        for (int event : Games.NO_EVENTS) {
            Refused.is("begins(" + event + ")", x -> x.begins(event), BAD);
        }
        Refused.is("begins(8) of eight", Games::withEightEvents, x -> x.begins(8), BAD);
        GlenGames x = Games.withEightEvents();
        x.lay(128 | 1);
        Due.is("event 0", x.begins(0), 0);
        Due.is("event 7", x.begins(7), 4);
    }

    private static void beginsNotAmong() {
        Refused.is("not among them", x -> x.begins(4), NOT);
        Refused.is("one that came behind the lay", Games::withEightEvents, x -> x.begins(7), NOT);
        Due.is("among them, at the first spell", Games.standing().begins(1), 0);
    }

    private static void orderAheadOfLay() {
        GlenGames x = Games.ofKinds(0, 1, 2);
        Due.is("how many ahead of a lay", x.order(-1), 0);
        Due.is("order(0) ahead of a lay", x.order(0), BAD);
    }

    private static void orderIndexes() {
        for (int i : of(-2, 4, 5, 6, LEAST, MOST)) {
            Refused.is("order(" + i + ") of four", x -> x.order(i), BAD);
        }
        GlenGames x = Games.ofKinds(0, 1, 2, 0, 1, 2);
        x.lay(63);
        Due.is("six", x.order(-1), 6);
        Due.is("the last of six", x.order(5), 5);
        Due.is("behind the last of six", x.order(6), BAD);
        x.lay(4);
        Due.is("one", x.order(-1), 1);
        Due.is("the only one", x.order(0), 2);
        Due.is("those of an older lay are gone", x.order(1), BAD);
        Due.is("one of an older lay is not among them", x.begins(0), NOT);
    }

    private static void refusedLayKeepsTheLatest() {
        GlenGames x = Games.ofKinds(0, 0, 0);
        x.lay(6);
        x.day(2, 0);
        Due.is("no order", x.lay(7), NOT);
        Due.is("bad", x.lay(0), BAD);
        Due.is("how many of the latest that told a spell", x.order(-1), 2);
        Due.is("the first of it", x.order(0), 1);
        Due.is("the second of it", x.order(1), 2);
        Due.is("begins(0)", x.begins(0), NOT);
        Due.is("begins(2)", x.begins(2), 1);
    }

    // ---- promise 9: idle

    private static void idleAheadOfLay() {
        GlenGames x = Games.three();
        Due.is("ahead of a lay", x.idle(0), BAD);
        Due.is("ahead of a lay, no man", x.idle(10), BAD);
        x.lay(1);
        Due.is("behind it", x.idle(0), 0);
    }

    private static void idleMen() {
        for (int man : Games.NO_MEN) {
            Refused.is("idle(" + man + ")", x -> x.idle(man), BAD);
        }
        GlenGames x = Games.three();
        x.lay(7);
        Due.is("man 0", x.idle(0), 2);
        Due.is("man 9", x.idle(9), 2);
    }

    private static void idleInNone() {
        Refused.is("entered in none", x -> x.idle(8), NOT);
        GlenGames x = Games.standing();
        x.lay(1);
        Due.is("entered in others than those laid", x.idle(5), NOT);
        Due.is("entered in one of those laid", x.idle(3), 0);
    }

    private static void idleOfOneAndOfTwo() {
        GlenGames x = Games.bare();
        add(x, 1, 3, 0, 1);
        add(x, 2, 12, 0);
        x.day(60, 0);
        x.lay(3);
        Due.is("one alone", x.idle(1), 0);
        Due.is("two without a spell between", x.idle(0), 0);
        x.day(60, 6);
        x.lay(3);
        Due.is("two with six between", x.idle(0), 6);
    }

    private static void idleWholeDay() {
        GlenGames x = Games.bare();
        add(x, 1, 1, 0);
        for (int i = 0; i < 4; i++) {
            add(x, 1, 12);
        }
        add(x, 1, 11, 0);
        for (int i = 1; i < 5; i++) {
            x.call(i, 5);
            x.call(0, i);
        }
        Due.is("a whole day", x.lay(63), 60);
        Due.is("from its first spell to its last", x.idle(0), 48);
        x.enter(5, 1, true);
        Due.is("the last eleven spells alone", x.idle(1), 0);
        x.enter(4, 1, true);
        Due.is("without a gap to the end of the day", x.idle(1), 0);
    }

    private static void idleOfThoseEnteredNow() {
        GlenGames x = Games.bare();
        add(x, 1, 2, 0);
        add(x, 1, 3);
        add(x, 1, 4, 0);
        add(x, 2, 9);
        x.lay(15);
        Due.is("three spells between", x.idle(0), 3);
        x.enter(1, 0, true);
        Due.is("entered since", x.idle(0), 0);
        x.enter(1, 0, false);
        x.enter(3, 0, true);
        Due.is("entered since in one at the same time", x.idle(0), 0);
        x.enter(3, 0, false);
        x.enter(0, 0, false);
        Due.is("not entered any more in the first", x.idle(0), 0);
        x.enter(2, 0, false);
        Due.is("not entered any more in any", x.idle(0), NOT);
    }
}
