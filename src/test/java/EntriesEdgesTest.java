/** Promises 10 to 13 and 15 to 19: each sentence that names a boundary case has a test of its own here. */
public final class EntriesEdgesTest {
    private static final int BAD = -1, NOT = -2, FULL = -3, CAST = -12, FAULT = -1;
    private static final int THROW = 0, RACE = 1, DANCE = 2;
    private static final int LEAST = Integer.MIN_VALUE, MOST = Integer.MAX_VALUE;
    private static final int STANDING = Games.STANDING;

    public static void main(String[] args) {
        stoneEvents();
        stoneGrams();
        stoneSlope();
        stoneCast();
        stoneOfEachEvent();
        wayEvents();
        wayYards();
        wayCast();
        wayOfEachEvent();
        yardsMen();
        yardsNumbers();
        entryEvents();
        entryMen();
        entryNotEntered();
        entryOfThrow();
        entryOfRace();
        entryOfDance();
        entryFull();
        markArguments();
        markNumbers();
        markNone();
        markVoid();
        markAsOf();
        marksOfSixTries();
        fairMarks();
        raceMarks();
        raceYardsAtTheEntry();
        raceLatest();
        danceAllThree();
        danceMiddle();
        danceLatest();
        placeArguments();
        placeNotTold();
        placeFirstAndLast();
        placeOfThrow();
        placeOfRace();
        placeOfDance();
        failEvents();
        failWas();
        paradoxArguments();
        paradoxCast();
        paradoxTwoJudges();
        paradoxNotAtPlaceOne();
        paradoxEachOther();
        paradoxNotJudged();
        paradoxAnother();
        paradoxVoid();
        paradoxAsOf();
        settledEvents();
        settledNothing();
        settledFirstAndLast();
        settledBackAgain();
        settledOfOthers();
        settledVoid();
        Due.end();
    }

    private static int[] of(int... numbers) {
        return numbers;
    }

    private static void marksAre(String name, GlenGames x, int man, int... due) {
        for (int k = 0; k < due.length; k++) {
            Due.is(name + ": mark " + k + " of " + man, x.mark(THROW, man, Games.now(x), k), due[k]);
        }
    }

    private static void placesAre(String name, GlenGames x, int event, int... due) {
        for (int man = 0; man < due.length; man++) {
            Due.is(name + ": place of " + man, x.place(event, man, Games.now(x)), due[man]);
        }
    }

    private static void tries(GlenGames x, int man, int... ways) {
        for (int way : ways) {
            x.entry(THROW, man, way, 0);
        }
    }

    private static int fairMark(int grams, int slope, int way, int wind) {
        GlenGames x = Games.three();
        x.entry(THROW, 0, way, wind);
        Due.is("stone(" + grams + ", " + slope + ")", x.stone(THROW, grams, slope), 1);
        return x.mark(THROW, 0, 1, 0);
    }

    private static int raceMark(int way, int yards, int time) {
        GlenGames x = Games.three();
        x.way(RACE, way);
        x.yards(0, yards);
        x.entry(RACE, 0, time, 0);
        return x.mark(RACE, 0, 1, 0);
    }

    private static int danceMark(int... placed) {
        GlenGames x = Games.three();
        Games.dance(x, DANCE, 0, placed);
        return x.mark(DANCE, 0, Games.now(x), 0);
    }

    // ---- promise 10: stone

    private static void stoneEvents() {
        for (int event : Games.NO_EVENTS) {
            Refused.is("stone of event " + event, x -> x.stone(event, 1000, 0), BAD);
        }
        Refused.is("stone of event 8 of eight", Games::withEightEvents, x -> x.stone(8, 1000, 0), BAD);
        Due.is("event 0", Games.standing().stone(0, 1000, 0), 1);
        Due.is("event 4, the last", Games.standing().stone(4, 1000, 0), 1);
    }

    private static void stoneGrams() {
        for (int grams : of(999, 30001, 0, -1000, LEAST, MOST)) {
            Refused.is("stone of " + grams, x -> x.stone(0, grams, 0), BAD);
        }
        Due.is("10000 at first", unchangedStone(), 10018);
        Due.is("1000", fairMark(1000, 0, 9999, 0), 999);
        Due.is("30000", fairMark(30000, 0, 9999, 0), 29997);
    }

    /** The mark is 10018.998 before it is cut down, so a gram more or less shows. */
    private static int unchangedStone() {
        GlenGames x = Games.three();
        x.entry(THROW, 0, 9999, -1);
        return x.mark(THROW, 0, 1, 0);
    }

    private static void stoneSlope() {
        for (int slope : of(-101, 101, LEAST, MOST)) {
            Refused.is("slope of " + slope, x -> x.stone(0, 10000, slope), BAD);
        }
        Due.is("-100", fairMark(10000, -100, 9999, 0), 10998);
        Due.is("100", fairMark(10000, 100, 9999, 0), 8999);
    }

    private static void stoneCast() {
        Refused.is("stone of a race", x -> x.stone(1, 10000, 0), CAST);
        Refused.is("stone of a dance", x -> x.stone(2, 10000, 0), CAST);
        Refused.is("a race, 999 grams: BAD comes first", x -> x.stone(1, 999, 0), BAD);
        Refused.is("a dance, slope 101: BAD comes first", x -> x.stone(2, 1000, 101), BAD);
    }

    private static void stoneOfEachEvent() {
        GlenGames x = Games.ofKinds(THROW, THROW);
        x.enter(0, 0, true);
        x.enter(1, 0, true);
        x.entry(0, 0, 1000, 0);
        x.entry(1, 0, 1000, 0);
        x.stone(1, 20000, 100);
        Due.is("the stone of another throw", x.mark(0, 0, 2, 0), 1000);
        Due.is("its own stone", x.mark(1, 0, 2, 0), 1800);
    }

    // ---- promise 11: way

    private static void wayEvents() {
        for (int event : Games.NO_EVENTS) {
            Refused.is("way of event " + event, x -> x.way(event, 100), BAD);
        }
        Due.is("event 3", Games.standing().way(3, 100), 220);
        Due.is("event 7 of eight", Games.withEightEvents().way(7, 100), 220);
        Refused.is("way of event 8 of eight", Games::withEightEvents, x -> x.way(8, 100), BAD);
    }

    private static void wayYards() {
        for (int yards : of(99, 2001, 0, -100, LEAST, MOST)) {
            Refused.is("way of " + yards, x -> x.way(1, yards), BAD);
        }
        GlenGames x = Games.three();
        Due.is("220 at first", x.way(RACE, 100), 220);
        Due.is("it was 100", x.way(RACE, 2000), 100);
        Due.is("it was 2000", x.way(RACE, 2000), 2000);
    }

    private static void wayCast() {
        Refused.is("way of a throw", x -> x.way(0, 100), CAST);
        Refused.is("way of a dance", x -> x.way(2, 100), CAST);
        Refused.is("a throw, 99 yards: BAD comes first", x -> x.way(0, 99), BAD);
        Refused.is("a dance, 2001 yards: BAD comes first", x -> x.way(2, 2001), BAD);
    }

    private static void wayOfEachEvent() {
        GlenGames x = Games.ofKinds(RACE, RACE);
        x.way(0, 500);
        Due.is("the way of another race", x.way(1, 100), 220);
        Due.is("its own way", x.way(0, 100), 500);
    }

    // ---- promise 12: yards

    private static void yardsMen() {
        for (int man : Games.NO_MEN) {
            Refused.is("yards of man " + man, x -> x.yards(man, 5), -1001);
        }
        GlenGames x = Games.bare();
        Due.is("man 0", x.yards(0, 7), 0);
        Due.is("man 9", x.yards(9, 8), 0);
        Due.is("each his own", x.yards(0, 0), 7);
        Due.is("each his own", x.yards(9, 0), 8);
    }

    private static void yardsNumbers() {
        for (int yards : of(-51, 51, LEAST, MOST)) {
            Refused.is("yards of " + yards, x -> x.yards(0, yards), -1001);
        }
        GlenGames x = Games.bare();
        Due.is("0 at first", x.yards(3, -50), 0);
        Due.is("it was -50", x.yards(3, 50), -50);
        Due.is("it was 50", x.yards(3, -1), 50);
        Due.is("-1, which is no BAD", x.yards(3, -1), -1);
    }

    // ---- promise 13: entry

    private static void entryEvents() {
        for (int event : Games.NO_EVENTS) {
            Refused.is("entry of event " + event, x -> x.entry(event, 0, 1, 0), BAD);
        }
        Due.is("event 0", Games.standing().entry(0, 0, 1, 0), STANDING);
        Due.is("event 4, the last", Games.standing().entry(4, 5, 1, 0), STANDING);
    }

    private static void entryMen() {
        for (int man : Games.NO_MEN) {
            Refused.is("entry of man " + man, x -> x.entry(0, man, 1, 0), BAD);
        }
        GlenGames x = Games.three();
        Due.is("man 0", x.entry(RACE, 0, 5, 0), 0);
        Due.is("man 9", x.entry(RACE, 9, 6, 0), 1);
        Due.is("man 0 has it", x.mark(RACE, 0, 2, 0), 5);
        Due.is("man 9 has it", x.mark(RACE, 9, 2, 0), 6);
    }

    private static void entryNotEntered() {
        Refused.is("not entered in it", x -> x.entry(0, 4, 1, 0), BAD);
        Refused.is("entered in another event alone", x -> x.entry(1, 5, 1, 0), BAD);
        GlenGames x = Games.three();
        x.enter(RACE, 4, false);
        Due.is("not entered any more", x.entry(RACE, 4, 5, 0), BAD);
        x.enter(RACE, 4, true);
        Due.is("entered again", x.entry(RACE, 4, 5, 0), 0);
    }

    private static void entryOfThrow() {
        for (int way : of(-2, 10000, LEAST, MOST)) {
            Refused.is("a way of " + way, x -> x.entry(0, 0, way, 0), BAD);
        }
        for (int wind : of(-21, 21, LEAST, MOST)) {
            Refused.is("a wind of " + wind, x -> x.entry(0, 0, 100, wind), BAD);
            Refused.is("a fault with a wind of " + wind, x -> x.entry(0, 0, FAULT, wind), BAD);
        }
        GlenGames x = Games.three();
        int[][] good = {{FAULT, 0}, {0, 0}, {9999, 0}, {500, -20}, {500, 20}, {FAULT, -20}, {FAULT, 20}};
        for (int i = 0; i < good.length; i++) {
            Due.is("a try of " + good[i][0] + ", " + good[i][1], x.entry(THROW, i, good[i][0], good[i][1]), i);
        }
        int[] marks = {-1, 0, 9999, 520, 480, -1, -1};
        for (int i = 0; i < marks.length; i++) {
            marksAre("a try", x, i, marks[i]);
        }
    }

    private static void entryOfRace() {
        for (int time : of(0, -1, 10000, LEAST, MOST)) {
            Refused.is("a time of " + time, x -> x.entry(1, 0, time, 0), BAD);
        }
        for (int b : of(-1, 1, LEAST, MOST)) {
            Refused.is("b of a race is " + b, x -> x.entry(1, 0, 100, b), BAD);
        }
        GlenGames x = Games.three();
        Due.is("a time of 1", x.entry(RACE, 0, 1, 0), 0);
        Due.is("a time of 9999", x.entry(RACE, 1, 9999, 0), 1);
        Due.is("1", x.mark(RACE, 0, 2, 0), 1);
        Due.is("9999", x.mark(RACE, 1, 2, 0), 9999);
    }

    private static void entryOfDance() {
        for (int judge : of(-1, 3, LEAST, MOST)) {
            Refused.is("judge " + judge, x -> x.entry(2, 3, judge, 1), BAD);
        }
        for (int placed : of(0, 10, -1, LEAST, MOST)) {
            Refused.is("placed " + placed, x -> x.entry(2, 3, 0, placed), BAD);
        }
        GlenGames x = Games.three();
        Due.is("judge 0, placed 1", x.entry(DANCE, 0, 0, 1), 0);
        Due.is("judge 1, placed 9", x.entry(DANCE, 0, 1, 9), 1);
        Due.is("judge 2, placed 9", x.entry(DANCE, 0, 2, 9), 2);
        Due.is("1, 9, 9", x.mark(DANCE, 0, 3, 0), 919);
    }

    private static void entryFull() {
        Refused.is("entry 160", Games::withAllEntries, x -> x.entry(0, 0, 1, 0), FULL);
        Refused.is("entry 160 of a race", Games::withAllEntries, x -> x.entry(1, 0, 1, 0), FULL);
        Refused.is("entry 160 of no event: BAD comes first", Games::withAllEntries, x -> x.entry(5, 0, 1, 0), BAD);
        Refused.is("entry 160, not entered: BAD comes first", Games::withAllEntries, x -> x.entry(0, 9, 1, 0), BAD);
        Refused.is("entry 160, time 0: BAD comes first", Games::withAllEntries, x -> x.entry(1, 0, 0, 0), BAD);
        GlenGames x = Games.three();
        for (int i = 0; i < 160; i++) {
            Due.is("entry " + i, x.entry(RACE, 0, 1 + i, 0), i);
        }
        Due.is("the last one counts", x.mark(RACE, 0, 160, 0), 160);
        Due.is("one more", x.entry(RACE, 0, 500, 0), FULL);
        Due.is("it does not count", x.mark(RACE, 0, 160, 0), 160);
        Due.is("how many", Games.now(x), 160);
    }

    // ---- promise 15: mark

    private static void markArguments() {
        for (int event : Games.NO_EVENTS) {
            Refused.is("mark of event " + event, x -> x.mark(event, 0, 0, 0), BAD);
        }
        for (int man : Games.NO_MEN) {
            Refused.is("mark of man " + man, x -> x.mark(0, man, 0, 0), BAD);
        }
        for (int n : Games.NO_AS_OF) {
            Refused.is("mark as of " + n, x -> x.mark(0, 0, n, 0), BAD);
        }
        Due.is("as of 0", Games.standing().mark(0, 0, 0, 0), NOT);
        Due.is("as of all", Games.standing().mark(0, 0, STANDING, 0), 3553);
        Due.is("as of 160", Games.withAllEntries().mark(1, 0, 160, 0), 124);
        Due.is("as of 161", Games.withAllEntries().mark(1, 0, 161, 0), BAD);
    }

    private static void markNumbers() {
        for (int k : of(-1, 6, LEAST, MOST)) {
            Refused.is("mark " + k + " of a throw", x -> x.mark(0, 0, STANDING, k), BAD);
            Refused.is("mark " + k + " of one who has none: BAD comes first", x -> x.mark(0, 3, STANDING, k), BAD);
        }
        for (int k : of(-1, 1, 5, LEAST, MOST)) {
            Refused.is("mark " + k + " of a race", x -> x.mark(1, 0, STANDING, k), BAD);
            Refused.is("mark " + k + " of a dance", x -> x.mark(2, 3, STANDING, k), BAD);
            Refused.is("mark " + k + " of one who has none: BAD comes first", x -> x.mark(1, 2, STANDING, k), BAD);
        }
        GlenGames x = Games.three();
        tries(x, 0, 1, 2, 3, 4, 5, 6);
        Due.is("mark 0", x.mark(THROW, 0, 6, 0), 6);
        Due.is("mark 5", x.mark(THROW, 0, 6, 5), 1);
    }

    private static void markNone() {
        Refused.is("no try", x -> x.mark(0, 3, STANDING, 0), NOT);
        Refused.is("no try, mark 5", x -> x.mark(0, 3, STANDING, 5), NOT);
        Refused.is("no time", x -> x.mark(1, 2, STANDING, 0), NOT);
        Refused.is("no judge", x -> x.mark(2, 9, STANDING, 0), NOT);
        Refused.is("not entered", x -> x.mark(0, 9, STANDING, 0), NOT);
        GlenGames x = Games.three();
        x.entry(THROW, 0, FAULT, 0);
        marksAre("a fault alone is a try", x, 0, -1, -1, -1, -1, -1, -1);
        Due.is("and he is told", x.told(THROW, 6), 1);
    }

    private static void markVoid() {
        GlenGames x = Games.standing();
        x.fail(0, true);
        x.fail(1, true);
        x.fail(2, true);
        Due.is("a void throw", x.mark(0, 0, STANDING, 0), 3553);
        Due.is("a void race", x.mark(1, 3, STANDING, 0), 290);
        Due.is("a void dance", x.mark(2, 3, STANDING, 0), 209);
        Due.is("a void throw, none", x.mark(0, 3, STANDING, 0), NOT);
    }

    private static void markAsOf() {
        GlenGames x = Games.three();
        x.entry(RACE, 0, 100, 0);
        x.entry(RACE, 0, 90, 0);
        x.entry(RACE, 0, 95, 0);
        Due.is("as of 0 entry 0 does not count", x.mark(RACE, 0, 0, 0), NOT);
        Due.is("as of 1 entry 0 counts, 1 does not", x.mark(RACE, 0, 1, 0), 100);
        Due.is("as of 2 entry 1 counts, 2 does not", x.mark(RACE, 0, 2, 0), 90);
        Due.is("as of 3 all count", x.mark(RACE, 0, 3, 0), 95);
        Due.is("as of 4 there is nothing", x.mark(RACE, 0, 4, 0), BAD);
    }

    private static void marksOfSixTries() {
        GlenGames x = Games.three();
        tries(x, 0, 900, 100, 200, 300, 400);
        marksAre("five", x, 0, 900, 400, 300, 200, 100, -1);
        tries(x, 0, 500);
        marksAre("six", x, 0, 900, 500, 400, 300, 200, 100);
        tries(x, 1, 7, 7, 7, 7, 7, 7, 7);
        marksAre("tries of others push none out", x, 0, 900, 500, 400, 300, 200, 100);
        tries(x, 0, FAULT);
        marksAre("a seventh pushes out the oldest, though it is best", x, 0, 500, 400, 300, 200, 100, -1);
        tries(x, 0, 0);
        marksAre("an eighth", x, 0, 500, 400, 300, 200, 0, -1);
        Due.is("as of 6 the oldest counts still", x.mark(THROW, 0, 6, 0), 900);
        tries(x, 2, FAULT, FAULT, FAULT, FAULT, FAULT, FAULT, 5);
        marksAre("faults behind", x, 2, 5, -1, -1, -1, -1, -1);
        tries(x, 3, 4, 4, 4, 4, 4, 4);
        marksAre("six alike", x, 3, 4, 4, 4, 4, 4, 4);
    }

    private static void fairMarks() {
        Due.is("the greatest of all", fairMark(30000, -100, 9999, -20), 34196);
        Due.is("the least of the longest way", fairMark(1000, 100, 9999, 20), 859);
        Due.is("a way of 0", fairMark(30000, -100, 0, -20), 0);
        Due.is("a way of 1 with a light stone is cut down to 0", fairMark(1000, 0, 1, 0), 0);
        Due.is("a fault with a heavy stone", fairMark(30000, -100, FAULT, -20), -1);
        Due.is("a fault with a light stone", fairMark(1000, 100, FAULT, 20), -1);
        Due.is("499 even", fairMark(10000, 0, 500, 1), 499);
        Due.is("499.998 is cut down", fairMark(10000, 0, 501, 1), 499);
        Due.is("slope and wind together", fairMark(10000, 10, 1000, -5), 1000);
        Due.is("2147483647 is passed on the way", fairMark(30000, 0, 72, 0), 216);
    }

    private static void raceMarks() {
        Due.is("the greatest of all", raceMark(100, 50, 9999), 19998);
        Due.is("the least of all: 0 is a mark", raceMark(100, -50, 1), 0);
        Due.is("100 and -50", raceMark(100, -50, 9999), 6666);
        Due.is("2000 and 50", raceMark(2000, 50, 9999), 10255);
        Due.is("2000 and -50", raceMark(2000, -50, 9999), 9755);
        Due.is("0 yards", raceMark(220, 0, 9999), 9999);
        Due.is("even", raceMark(200, 40, 80), 100);
        Due.is("cut down", raceMark(200, 40, 79), 98);
        GlenGames x = Games.three();
        x.yards(1, 40);
        x.entry(RACE, 1, 180, 0);
        Due.is("a way of 220 at first", x.mark(RACE, 1, 1, 0), 220);
    }

    private static void raceYardsAtTheEntry() {
        GlenGames x = Games.three();
        x.way(RACE, 100);
        x.yards(0, 50);
        x.entry(RACE, 0, 100, 0);
        x.yards(0, -50);
        Due.is("yards given since do not count", x.mark(RACE, 0, 1, 0), 200);
        x.entry(RACE, 0, 150, 0);
        Due.is("those at the latest entry do", x.mark(RACE, 0, 2, 0), 100);
        Due.is("as of 1 those at the first", x.mark(RACE, 0, 1, 0), 200);
        x.way(RACE, 200);
        Due.is("the way is that of now", x.mark(RACE, 0, 2, 0), 120);
    }

    private static void raceLatest() {
        GlenGames x = Games.three();
        x.entry(RACE, 0, 100, 0);
        x.entry(RACE, 1, 50, 0);
        Due.is("an entry of another man", x.mark(RACE, 0, 2, 0), 100);
        x.entry(RACE, 0, 200, 0);
        Due.is("the latest, not the best", x.mark(RACE, 0, 3, 0), 200);
        x.entry(THROW, 0, 1, 0);
        Due.is("an entry of another event", x.mark(RACE, 0, 4, 0), 200);
    }

    private static void danceAllThree() {
        for (int missing = 0; missing < 3; missing++) {
            GlenGames x = Games.three();
            x.entry(DANCE, 0, (missing + 1) % 3, 4);
            x.entry(DANCE, 0, (missing + 2) % 3, 4);
            x.entry(DANCE, 0, (missing + 2) % 3, 4);
            Due.is("without judge " + missing, x.mark(DANCE, 0, 3, 0), NOT);
            Due.is("without judge " + missing + ": no place", x.place(DANCE, 0, 3), NOT);
            Due.is("without judge " + missing + ": none told", x.told(DANCE, 6), 0);
            x.entry(DANCE, 0, missing, 4);
            Due.is("with judge " + missing, x.mark(DANCE, 0, 4, 0), 412);
            Due.is("as of the one ahead", x.mark(DANCE, 0, 3, 0), NOT);
        }
    }

    private static void danceMiddle() {
        Due.is("the least", danceMark(1, 1, 1), 103);
        Due.is("the greatest", danceMark(9, 9, 9), 927);
        int[][] orders = {{1, 5, 9}, {1, 9, 5}, {5, 1, 9}, {5, 9, 1}, {9, 1, 5}, {9, 5, 1}};
        for (int[] o : orders) {
            Due.is("the middle one of 1, 5, 9", danceMark(o), 515);
        }
        int[][] pairs = {{2, 2, 7}, {2, 7, 2}, {7, 2, 2}};
        for (int[] p : pairs) {
            Due.is("two of 2", danceMark(p), 211);
        }
        int[][] others = {{7, 7, 2}, {7, 2, 7}, {2, 7, 7}};
        for (int[] p : others) {
            Due.is("two of 7", danceMark(p), 716);
        }
    }

    private static void danceLatest() {
        for (int judge = 0; judge < 3; judge++) {
            GlenGames x = Games.three();
            Games.dance(x, DANCE, 0, 5, 5, 5);
            x.entry(DANCE, 0, judge, 9);
            Due.is("the latest by judge " + judge, x.mark(DANCE, 0, 4, 0), 519);
            x.entry(DANCE, 0, judge, 1);
            Due.is("the latest by judge " + judge, x.mark(DANCE, 0, 5, 0), 511);
            x.entry(DANCE, 1, judge, 9);
            Due.is("the latest of another man", x.mark(DANCE, 0, 6, 0), 511);
        }
    }

    // ---- promise 16: place

    private static void placeArguments() {
        for (int event : Games.NO_EVENTS) {
            Refused.is("place in event " + event, x -> x.place(event, 0, 0), BAD);
        }
        for (int man : Games.NO_MEN) {
            Refused.is("place of man " + man, x -> x.place(0, man, 0), BAD);
        }
        for (int n : Games.NO_AS_OF) {
            Refused.is("place as of " + n, x -> x.place(0, 0, n), BAD);
        }
        Due.is("as of 0", Games.standing().place(0, 0, 0), NOT);
        Due.is("as of 1", Games.standing().place(0, 0, 1), 1);
        Due.is("as of all", Games.standing().place(0, 1, STANDING), 3);
        Due.is("as of 160", Games.withAllEntries().place(1, 0, 160), 1);
        Due.is("as of 161", Games.withAllEntries().place(1, 0, 161), BAD);
    }

    private static void placeNotTold() {
        Refused.is("no try", x -> x.place(0, 3, STANDING), NOT);
        Refused.is("no time", x -> x.place(1, 2, STANDING), NOT);
        Refused.is("not judged", x -> x.place(2, 9, STANDING), NOT);
        Refused.is("not entered", x -> x.place(0, 9, STANDING), NOT);
        GlenGames x = Games.standing();
        x.fail(0, true);
        Due.is("void", x.place(0, 0, STANDING), NOT);
        x.fail(0, false);
        Due.is("not void any more", x.place(0, 0, STANDING), 1);
    }

    private static void placeFirstAndLast() {
        GlenGames x = Games.three();
        GlenGames y = Games.three();
        for (int man = 0; man < 10; man++) {
            x.entry(RACE, man, 100 + man, 0);
            y.entry(RACE, man, 100, 0);
        }
        placesAre("all ten differ", x, RACE, 1, 2, 3, 4, 5, 6, 7, 8, 9, 10);
        placesAre("all ten are alike", y, RACE, 1, 1, 1, 1, 1, 1, 1, 1, 1, 1);
        y.entry(RACE, 0, 101, 0);
        placesAre("nine are ahead of one", y, RACE, 10, 1, 1, 1, 1, 1, 1, 1, 1, 1);
        y.entry(RACE, 0, 99, 0);
        placesAre("one is ahead of nine", y, RACE, 1, 2, 2, 2, 2, 2, 2, 2, 2, 2);
        GlenGames z = Games.three();
        z.entry(RACE, 5, 9999, 0);
        placesAre("one alone", z, RACE, NOT, NOT, NOT, NOT, NOT, 1, NOT);
    }

    private static void placeOfThrow() {
        GlenGames x = Games.three();
        tries(x, 0, 9, 8, 7, 6, 5, 4);
        tries(x, 1, 4, 5, 6, 7, 8, 9);
        placesAre("all six marks are alike", x, THROW, 1, 1);
        tries(x, 2, 9, 8, 7, 6, 5, 3);
        placesAre("the sixth mark differs", x, THROW, 1, 1, 3);
        tries(x, 3, 10);
        placesAre("the first mark differs", x, THROW, 2, 2, 4, 1);
        tries(x, 4, FAULT);
        tries(x, 5, 0);
        tries(x, 6, FAULT, FAULT);
        tries(x, 7, 0, FAULT);
        tries(x, 8, 0, 0);
        placesAre("a fault is as no try, and less than 0", x, THROW, 2, 2, 4, 1, 8, 6, 8, 6, 5, NOT);
    }

    private static void placeOfRace() {
        GlenGames x = Games.three();
        x.way(RACE, 100);
        x.yards(0, -50);
        x.entry(RACE, 0, 2, 0);
        x.entry(RACE, 1, 1, 0);
        placesAre("marks alike as cut down: 200 / 150 and 1", x, RACE, 1, 1);
        x.yards(2, -50);
        x.entry(RACE, 2, 1, 0);
        placesAre("a mark of 0 is ahead", x, RACE, 2, 2, 1);
    }

    private static void placeOfDance() {
        GlenGames x = Games.three();
        Games.dance(x, DANCE, 0, 1, 5, 9);
        Games.dance(x, DANCE, 1, 5, 5, 5);
        placesAre("515 and 515", x, DANCE, 1, 1);
        Games.dance(x, DANCE, 2, 5, 5, 4);
        placesAre("514", x, DANCE, 2, 2, 1);
        Games.dance(x, DANCE, 3, 4, 9, 4);
        placesAre("417", x, DANCE, 3, 3, 2, 1);
        Games.dance(x, DANCE, 4, 1, 1);
        placesAre("two judges alone are not counted", x, DANCE, 3, 3, 2, 1, NOT);
    }

    // ---- promise 17: fail

    private static void failEvents() {
        for (int event : Games.NO_EVENTS) {
            Refused.is("fail event " + event, x -> x.fail(event, true), BAD);
            Refused.is("fail event " + event + ", not any more", x -> x.fail(event, false), BAD);
        }
        GlenGames x = Games.withEightEvents();
        Due.is("event 0", x.fail(0, true), 0);
        Due.is("event 7 of eight", x.fail(7, true), 0);
        Due.is("event 8 of eight", x.fail(8, true), BAD);
        Due.is("event 6 is not", x.told(6, 5), 0);
    }

    private static void failWas() {
        GlenGames x = Games.ofKinds(RACE);
        Due.is("not at first", x.fail(0, false), 0);
        Due.is("not still", x.fail(0, true), 0);
        Due.is("void", x.fail(0, true), 1);
        Due.is("void still", x.fail(0, false), 1);
        Due.is("not any more", x.fail(0, false), 0);
    }

    // ---- promise 18: paradox

    private static void paradoxArguments() {
        for (int event : Games.NO_EVENTS) {
            Refused.is("paradox of event " + event, x -> x.paradox(event, 0), BAD);
        }
        for (int n : Games.NO_AS_OF) {
            Refused.is("paradox as of " + n, x -> x.paradox(2, n), BAD);
        }
        Due.is("as of all", Games.standing().paradox(2, STANDING), 4);
        Refused.is("as of 0", x -> x.paradox(2, 0), NOT);
    }

    private static void paradoxCast() {
        Refused.is("paradox of a throw", x -> x.paradox(0, 0), CAST);
        Refused.is("paradox of a race", x -> x.paradox(1, STANDING), CAST);
        Refused.is("paradox of a void throw", x -> x.paradox(4, 0), CAST);
        Refused.is("a race, as of too many: BAD comes first", x -> x.paradox(1, STANDING + 1), BAD);
        Refused.is("a throw, as of -1: BAD comes first", x -> x.paradox(0, -1), BAD);
    }

    private static int paradoxOf(int[]... placed) {
        GlenGames x = Games.three();
        for (int man = 0; man < placed.length; man++) {
            Games.dance(x, DANCE, man, placed[man]);
        }
        return x.paradox(DANCE, Games.now(x));
    }

    private static void paradoxTwoJudges() {
        Due.is("judges 0 and 1", paradoxOf(of(2, 6, 1), of(1, 5, 9)), 1);
        Due.is("judges 0 and 2", paradoxOf(of(2, 1, 6), of(1, 9, 5)), 1);
        Due.is("judges 1 and 2", paradoxOf(of(1, 2, 6), of(9, 1, 5)), 1);
        Due.is("judge 0 alone, 1 is alike", paradoxOf(of(2, 5, 1), of(1, 5, 9)), NOT);
        Due.is("judge 1 alone, 0 is alike", paradoxOf(of(1, 6, 1), of(1, 5, 9)), NOT);
        Due.is("judge 0 alone", paradoxOf(of(2, 4, 1), of(1, 5, 9)), NOT);
        Due.is("man 0 is one", paradoxOf(of(1, 5, 9), of(2, 6, 1)), 0);
        GlenGames x = Games.three();
        Games.dance(x, DANCE, 8, 2, 6, 1);
        Games.dance(x, DANCE, 9, 1, 5, 9);
        Due.is("man 9 is one", x.paradox(DANCE, 6), 9);
    }

    private static void paradoxNotAtPlaceOne() {
        Due.is("at place 1 before all judges", paradoxOf(of(2, 2, 2), of(1, 1, 1)), NOT);
        Due.is("at place 1 by two judges", paradoxOf(of(2, 2, 1), of(1, 1, 9)), NOT);
        Due.is("at place 1 together with the other", paradoxOf(of(5, 6, 4), of(1, 5, 9)), NOT);
        Due.is("at place 2", paradoxOf(of(5, 6, 3), of(1, 5, 9)), 1);
    }

    private static void paradoxEachOther() {
        Due.is("against two others", paradoxOf(of(2, 6, 1), of(1, 5, 9), of(9, 9, 9)), 1);
        Due.is("against one of two others", paradoxOf(of(2, 6, 1), of(1, 5, 9), of(1, 4, 9)), NOT);
        Due.is("against the last man as well", againstTheLast(6), 1);
        Due.is("not against the last man", againstTheLast(5), NOT);
        Due.is("a ring", paradoxOf(of(1, 2, 3), of(2, 3, 1), of(3, 1, 2)), NOT);
    }

    private static int againstTheLast(int placed) {
        GlenGames x = Games.three();
        Games.dance(x, DANCE, 0, 2, 6, 1);
        Games.dance(x, DANCE, 1, 1, 5, 9);
        Games.dance(x, DANCE, 9, 9, placed, 9);
        return x.paradox(DANCE, Games.now(x));
    }

    private static void paradoxNotJudged() {
        Due.is("another one who is not judged is not looked at", paradoxOf(of(2, 6, 1), of(1, 5, 9), of(1, 1)), 1);
        Due.is("one who is not judged is none", paradoxOf(of(5, 5, 5), of(1, 1)), NOT);
    }

    private static void paradoxAnother() {
        Due.is("nobody", paradoxOf(), NOT);
        Due.is("one alone", paradoxOf(of(9, 9, 9)), NOT);
        Due.is("one alone, and one who is not judged", paradoxOf(of(9, 9, 9), of(9, 9)), NOT);
    }

    private static void paradoxVoid() {
        GlenGames x = Games.standing();
        x.fail(2, true);
        Due.is("none in a void one", x.paradox(2, STANDING), NOT);
        x.fail(2, false);
        Due.is("not void any more", x.paradox(2, STANDING), 4);
    }

    private static void paradoxAsOf() {
        Due.is("as of all but the last", Games.standing().paradox(2, STANDING - 1), NOT);
        GlenGames x = Games.standing();
        x.entry(2, 4, 2, 1);
        Due.is("as of one that came since", x.paradox(2, STANDING + 1), NOT);
        Due.is("as of the one ahead", x.paradox(2, STANDING), 4);
    }

    // ---- promise 19: settled

    private static void settledEvents() {
        for (int event : Games.NO_EVENTS) {
            Refused.is("settled of event " + event, x -> x.settled(event), BAD);
        }
        Refused.is("settled of event 8 of eight", Games::withEightEvents, x -> x.settled(8), BAD);
        Due.is("event 7 of eight", Games.withEightEvents().settled(7), 0);
    }

    private static void settledNothing() {
        Due.is("no entries at all", Games.three().settled(RACE), 0);
        Due.is("none of its own", Games.standing().settled(3), 0);
        GlenGames x = Games.three();
        Games.dance(x, DANCE, 0, 1, 1);
        Due.is("entries that tell nobody", x.settled(DANCE), 0);
        x.entry(DANCE, 0, 2, 1);
        Due.is("the one by which he is told", x.settled(DANCE), 3);
    }

    private static void settledFirstAndLast() {
        GlenGames x = Games.three();
        for (int i = 0; i < 160; i++) {
            x.entry(RACE, 0, 1 + i, 0);
        }
        Due.is("by the first of all", x.settled(RACE), 1);
        GlenGames y = Games.three();
        for (int i = 0; i < 159; i++) {
            y.entry(RACE, 0, 200, 0);
        }
        y.entry(RACE, 1, 100, 0);
        Due.is("by the last of all", y.settled(RACE), 160);
        Due.is("as of one less it is another", y.place(RACE, 0, 159), 1);
    }

    private static void settledBackAgain() {
        GlenGames x = Games.three();
        x.entry(RACE, 0, 100, 0);
        x.entry(RACE, 1, 200, 0);
        Due.is("as of 2", x.settled(RACE), 2);
        x.entry(RACE, 1, 50, 0);
        x.entry(RACE, 1, 200, 0);
        Due.is("as of 2 they were the same, as of 3 not", x.settled(RACE), 4);
        x.entry(RACE, 1, 150, 0);
        Due.is("the last changes a mark and no place", x.settled(RACE), 4);
        x.entry(RACE, 1, 100, 0);
        Due.is("the last changes one place", x.settled(RACE), 6);
    }

    private static void settledOfOthers() {
        GlenGames x = Games.three();
        x.entry(THROW, 0, 100, 0);
        x.entry(RACE, 0, 100, 0);
        x.entry(THROW, 1, 100, 0);
        x.entry(RACE, 0, 90, 0);
        Due.is("entries of other events ahead", x.settled(RACE), 2);
        Due.is("entries of other events behind", x.settled(THROW), 3);
    }

    private static void settledVoid() {
        GlenGames x = Games.standing();
        Due.is("not void", x.settled(1), 7);
        x.fail(1, true);
        Due.is("void: nobody has a place as of any", x.settled(1), 0);
    }
}
