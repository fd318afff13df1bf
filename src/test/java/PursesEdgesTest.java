/** Promises 20 to 25 and 29: each sentence that names a boundary case has a test of its own here. */
public final class PursesEdgesTest {
    private static final int BAD = -1, NOT = -2, FULL = -3, CAST = -12, FAULT = -1, FAULTS = -20;
    private static final int THROW = 0, RACE = 1, DANCE = 2;
    private static final int LEAST = Integer.MIN_VALUE, MOST = Integer.MAX_VALUE;
    private static final long EIGHT_BLANKS = 0x2020202020202020L;
    private static final int STANDING = Games.STANDING;

    public static void main(String[] args) {
        typeHowMany();
        typeBytes();
        typeHigherBytes();
        typeHighestFirst();
        typeFull();
        sharesAtFirst();
        sharesHowMany();
        sharesNumbers();
        sharesTogether();
        sharesDigits();
        sharesBlanks();
        sharesEnd();
        sharesSigns();
        sharesSixthComma();
        sharesFirstFault();
        sharesEmptyTheTape();
        sharesFaultKeepsShares();
        sharesReplaceShares();
        purseEvents();
        pursePence();
        wonArguments();
        wonNotTold();
        wonBehindTheLastShare();
        wonOfOnePlace();
        wonLeftOver();
        wonCutDown();
        wonAsOfAll();
        allMen();
        allOfEight();
        moveArguments();
        moveCast();
        moveHowMany();
        moveHeld();
        moveAsOf();
        moveVoid();
        toldWhat();
        toldEvents();
        toldNotLookedAt();
        toldHowManyTold();
        Due.end();
    }

    private static int[] of(int... numbers) {
        return numbers;
    }

    private static int sharesOf(String text) {
        GlenGames x = Games.bare();
        Games.type(x, text);
        return x.shares();
    }

    /** The fault whose byte has this place. */
    private static void faultAt(String text, int place) {
        Due.is("shares of '" + text + "'", sharesOf(text), FAULTS - place);
    }

    /** A throw in which all ten men have the ways told, parted by the text. */
    private static GlenGames parted(String text, int pence, int... ways) {
        GlenGames x = Games.ofKinds(THROW);
        Games.enterAll(x, 0);
        for (int man = 0; man < ways.length; man++) {
            x.entry(0, man, ways[man], 0);
        }
        Games.type(x, text);
        x.shares();
        x.purse(0, pence);
        return x;
    }

    private static void wonAre(String name, GlenGames x, int... due) {
        for (int man = 0; man < due.length; man++) {
            Due.is(name + ": won by " + man, x.won(0, man), due[man]);
        }
    }

    // ---- promise 20: type

    private static void typeHowMany() {
        for (int n : of(0, 9, -1, LEAST, MOST)) {
            Refused.is("type " + n + " bytes", x -> x.type(EIGHT_BLANKS, n), BAD);
        }
        Due.is("1 byte", Games.bare().type(EIGHT_BLANKS, 1), 1);
        Due.is("8 bytes", Games.bare().type(EIGHT_BLANKS, 8), 8);
    }

    private static void typeBytes() {
        for (int place = 0; place < 8; place++) {
            long clear = EIGHT_BLANKS & ~(255L << 8 * place);
            for (long wrong : new long[] {0, 31, 127, 128, 255}) {
                long w = clear | wrong << 8 * place;
                Refused.is("byte " + wrong + " at " + place, x -> x.type(w, 8), BAD);
            }
            Due.is("byte 32 at " + place, Games.bare().type(clear | 32L << 8 * place, 8), 8);
            Due.is("byte 126 at " + place, Games.bare().type(clear | 126L << 8 * place, 8), 8);
        }
    }

    private static void typeHigherBytes() {
        for (int n = 1; n < 8; n++) {
            long wrong = EIGHT_BLANKS & ~(255L << 8 * n);
            Due.is("a byte 0 above " + n, Games.bare().type(wrong, n), n);
            Due.is("a byte 0 among " + (n + 1), Games.bare().type(wrong, n + 1), BAD);
        }
        Due.is("w below 0", Games.bare().type(-1L << 8 | '5', 1), 1);
    }

    private static void typeHighestFirst() {
        GlenGames x = Games.bare();
        x.type('7' << 16 | ',' << 8 | 'x', 3);
        Due.is("7,x", x.shares(), FAULTS - 2);
        x.type('x' << 16 | ',' << 8 | '7', 3);
        Due.is("x,7", x.shares(), FAULTS);
        x.type('7', 1);
        Due.is("behind the tape", x.type(',', 1), 2);
        x.type('x', 1);
        Due.is("7 , x", x.shares(), FAULTS - 2);
    }

    private static void typeFull() {
        Refused.is("a 41st byte", Games::withFullTape, x -> x.type(' ', 1), FULL);
        Refused.is("eight more than 40", Games::withFullTape, x -> x.type(EIGHT_BLANKS, 8), FULL);
        Refused.is("a 41st byte of 31: BAD comes first", Games::withFullTape, x -> x.type(31, 1), BAD);
        Refused.is("nine more than 40: BAD comes first", Games::withFullTape, x -> x.type(EIGHT_BLANKS, 9), BAD);
        GlenGames x = Games.bare();
        for (int i = 1; i <= 4; i++) {
            Due.is("eight more", x.type(EIGHT_BLANKS, 8), 8 * i);
        }
        Due.is("33", x.type(' ', 1), 33);
        Due.is("41", x.type(EIGHT_BLANKS, 8), FULL);
        Due.is("40, as none of the eight came behind it", x.type(EIGHT_BLANKS, 7), 40);
        Due.is("41", x.type(' ', 1), FULL);
        GlenGames y = Games.bare();
        for (int i = 1; i <= 5; i++) {
            Due.is("eight more", y.type(EIGHT_BLANKS, 8), 8 * i);
        }
    }

    // ---- promise 21: shares

    private static void sharesAtFirst() {
        GlenGames x = Games.ofKinds(THROW);
        Games.enterAll(x, 0);
        for (int man = 0; man < 4; man++) {
            x.entry(0, man, 100 - man, 0);
        }
        x.purse(0, 100);
        wonAre("60, 30, 10 at first", x, 60, 30, 10, 0);
    }

    private static void sharesHowMany() {
        Due.is("1", sharesOf("5"), 1);
        Due.is("6", sharesOf("1,2,3,4,5,6"), 6);
        faultAt("1,2,3,4,5,6,7", 11);
        faultAt("", 0);
    }

    private static void sharesNumbers() {
        Due.is("0", sharesOf("0"), 1);
        Due.is("100", sharesOf("100"), 1);
        faultAt("101", 0);
        faultAt("999", 0);
        faultAt("0,101", 2);
    }

    private static void sharesTogether() {
        Due.is("100 together", sharesOf("50,50"), 2);
        Due.is("100 together, by six", sharesOf("20,20,20,20,10,10"), 6);
        Due.is("100 and 0", sharesOf("100,0,0"), 3);
        Due.is("99 together", sharesOf("50,49"), 2);
        faultAt("50,51", 3);
        faultAt("100,1", 4);
        faultAt("100,0,0,0,0,1", 12);
        faultAt("20,20,20,20,20,1", 15);
        faultAt("50,30,  21,1", 8);
    }

    private static void sharesDigits() {
        Due.is("three digits", sharesOf("007,010"), 2);
        Due.is("000", sharesOf("000"), 1);
        faultAt("0007", 0);
        faultAt("0000", 0);
        faultAt("5,0007", 2);
        faultAt("5, 1000", 3);
        faultAt("4294967301", 0);
        faultAt("1000000000000000000000000000000000000000", 0);
        Due.is("digits 0 to 9", sharesOf("12,34,9,8,7,06"), 6);
        Due.is("5", sharesOf("5"), 1);
    }

    private static void sharesBlanks() {
        Due.is("ahead, between and behind", sharesOf("   5   ,   6   "), 2);
        Due.is("40 bytes", sharesOf("                                       5"), 1);
        faultAt("5 6", 2);
        faultAt("5   6", 4);
        faultAt("1 0 0", 2);
        faultAt("5,6 7", 4);
        faultAt("  x", 2);
        faultAt("5  x", 3);
        faultAt("5,  x", 4);
        faultAt("   101", 3);
        faultAt("   1000", 3);
        faultAt("5  ,  ,", 6);
    }

    private static void sharesEnd() {
        faultAt("", 0);
        faultAt(" ", 1);
        faultAt("5,", 2);
        faultAt("5, ", 3);
        faultAt("1,2,3,4,5,", 10);
        faultAt("                                        ", 40);
        faultAt("5,                                      ", 40);
    }

    private static void sharesSigns() {
        faultAt(",", 0);
        faultAt(",5", 0);
        faultAt("5,,6", 2);
        faultAt("5;6", 1);
        faultAt("5.6", 1);
        faultAt("-5", 0);
        faultAt("+5", 0);
        faultAt("/", 0);
        faultAt(":", 0);
        faultAt("5/", 1);
        faultAt("5:", 1);
        faultAt("5+", 1);
        faultAt("5-", 1);
        faultAt("5!", 1);
        faultAt("5~", 1);
        faultAt("5%", 1);
        faultAt("12a", 2);
    }

    private static void sharesSixthComma() {
        Due.is("a fifth", sharesOf("1,1,1,1,1,1"), 6);
        faultAt("1,1,1,1,1,1,", 11);
        faultAt("1,1,1,1,1,1,1", 11);
        faultAt("1,1,1,1,1,1  ,", 13);
        faultAt("1,1,1,1,1,1 1", 12);
        faultAt("1,1,1,1,1,1x", 11);
    }

    private static void sharesFirstFault() {
        faultAt("101x", 0);
        faultAt("60,41x", 3);
        faultAt("1000,x", 0);
        faultAt("x,101", 0);
        faultAt("5x101", 1);
        faultAt("5,,101", 2);
    }

    private static void sharesEmptyTheTape() {
        for (String text : new String[] {"", "5", "x", "5,", "101", "1,1,1,1,1,1,1", "   "}) {
            GlenGames x = Games.bare();
            Games.type(x, text);
            x.shares();
            Due.is("the tape behind '" + text + "' is empty", x.shares(), FAULTS);
            Due.is("the tape behind '" + text + "' begins anew", x.type('5', 1), 1);
            Due.is("and what was on it is not read again", x.shares(), 1);
        }
        GlenGames full = Games.withFullTape();
        full.shares();
        Due.is("a full one has room again", full.type(EIGHT_BLANKS, 8), 8);
    }

    private static void sharesFaultKeepsShares() {
        for (String text : new String[] {"", "x", "5,", "5,x", "101", "80,21", "0001", "1,1,1,1,1,1,"}) {
            GlenGames x = parted("70,20", 100, 9, 8, 7);
            Games.type(x, text);
            Due.holds("'" + text + "' is a fault", x.shares() <= FAULTS);
            wonAre("shares behind the fault of '" + text + "'", x, 70, 20, 0);
        }
    }

    private static void sharesReplaceShares() {
        GlenGames x = parted("10,10,10,10,10,10", 100, 9, 8, 7, 6, 5, 4, 3);
        wonAre("six", x, 10, 10, 10, 10, 10, 10, 0);
        Games.type(x, "5");
        Due.is("one", x.shares(), 1);
        wonAre("one: those behind it are no more", x, 5, 0, 0, 0, 0, 0, 0);
        Games.type(x, "0,0,0,0,0,100");
        Due.is("six", x.shares(), 6);
        wonAre("the sixth has all", x, 0, 0, 0, 0, 0, 100, 0);
    }

    // ---- promise 22: purse

    private static void purseEvents() {
        for (int event : Games.NO_EVENTS) {
            Refused.is("purse of event " + event, x -> x.purse(event, 5), BAD);
        }
        Refused.is("purse of event 8 of eight", Games::withEightEvents, x -> x.purse(8, 5), BAD);
        GlenGames x = Games.withEightEvents();
        Due.is("event 7 of eight", x.purse(7, 5), 0);
        Due.is("event 6 has none of it", x.told(6, 4), 0);
        Due.is("event 7 has it", x.told(7, 4), 5);
    }

    private static void pursePence() {
        for (int pence : of(-1, 100001, LEAST, MOST)) {
            Refused.is("purse of " + pence, x -> x.purse(0, pence), BAD);
        }
        GlenGames x = Games.ofKinds(THROW);
        Due.is("0 at first", x.purse(0, 100000), 0);
        Due.is("it was 100000", x.purse(0, 0), 100000);
        Due.is("it was 0", x.purse(0, 1), 0);
    }

    // ---- promise 23: won

    private static void wonArguments() {
        for (int event : Games.NO_EVENTS) {
            Refused.is("won of event " + event, x -> x.won(event, 0), BAD);
        }
        for (int man : Games.NO_MEN) {
            Refused.is("won by man " + man, x -> x.won(0, man), BAD);
        }
        GlenGames x = parted("50,50", 100, 9, 8, 7, 6, 5, 4, 3, 2, 1, 10);
        Due.is("man 0", x.won(0, 0), 50);
        Due.is("man 9", x.won(0, 9), 50);
    }

    private static void wonNotTold() {
        GlenGames x = parted("100", 100, 9);
        Due.is("told", x.won(0, 0), 100);
        Due.is("entered, no try", x.won(0, 1), 0);
        x.enter(0, 2, false);
        Due.is("not entered", x.won(0, 2), 0);
        x.fail(0, true);
        Due.is("void", x.won(0, 0), 0);
        GlenGames y = parted("100", 100, FAULT);
        Due.is("told by a fault alone", y.won(0, 0), 100);
    }

    private static void wonBehindTheLastShare() {
        GlenGames x = parted("20,20,20,20,10,10", 100, 9, 8, 7, 6, 5, 4, 3, 2);
        wonAre("there are none behind the sixth", x, 20, 20, 20, 20, 10, 10, 0, 0, 0, 0);
        GlenGames y = parted("100", 100, 9, 8);
        wonAre("there are none behind the only one", y, 100, 0);
        GlenGames z = parted("60,30", 100, 9, 8, 8, 8);
        wonAre("three at place 2 have the second alone", z, 60, 10, 10, 10);
        GlenGames t = parted("60,30", 100, 9, 8, 7, 7);
        wonAre("two at place 3 have none", t, 60, 30, 0, 0);
    }

    private static void wonOfOnePlace() {
        GlenGames x = parted("40,30,20,10", 100, 5, 5, 5, 4);
        wonAre("three at place 1 have shares 1 to 3", x, 30, 30, 30, 10);
        GlenGames y = parted("40,30,20,10", 100, 6, 5, 5, 4);
        wonAre("two at place 2 have shares 2 and 3", y, 40, 25, 25, 10);
        GlenGames z = parted("20,20,20,20,10,10", 1000, 1, 1, 1, 1, 1, 1, 1, 1, 1, 1);
        wonAre("ten at place 1 have all six", z, 100, 100, 100, 100, 100, 100, 100, 100, 100, 100);
    }

    private static void wonLeftOver() {
        wonAre("nothing left over", parted("100", 9, 5, 5, 5), 3, 3, 3);
        wonAre("1 left over", parted("100", 10, 5, 5, 5), 4, 3, 3);
        wonAre("2 left over", parted("100", 11, 5, 5, 5), 4, 4, 3);
        wonAre("less than one each", parted("100", 2, 5, 5, 5), 1, 1, 0);
        wonAre("for the least of those at this place", parted("50,50", 11, 6, 5, 5), 5, 3, 3);
        wonAre("for the least of those at this place", parted("50,50", 10, 6, 5, 5), 5, 3, 2);
        wonAre("not for one at another place", parted("50,50", 3, 5, 6, 5), 1, 1, 1);
        wonAre("9 of ten", parted("100", 9, 1, 1, 1, 1, 1, 1, 1, 1, 1, 1), 1, 1, 1, 1, 1, 1, 1, 1, 1, 0);
    }

    private static void wonCutDown() {
        wonAre("1 penny: the third has it", parted("60,30,10", 1, 3, 2, 1), 0, 0, 1);
        wonAre("199 pence", parted("60,30,10", 199, 3, 2, 1), 119, 60, 20);
        wonAre("what is behind the shares is nobody's", parted("33,33,33", 100, 3, 2, 1, 0), 33, 33, 33, 0);
        wonAre("a purse of 0", parted("60,30,10", 0, 3, 2, 1), 0, 0, 0);
        wonAre("a purse of 100000", parted("99,1", 100000, 3, 2, 1), 99000, 1000, 0);
        wonAre("a share of 0", parted("0,100", 7, 3, 2, 1), 0, 7, 0);
    }

    private static void wonAsOfAll() {
        GlenGames x = parted("70,30", 100, 9, 8);
        wonAre("as of 2", x, 70, 30);
        x.entry(0, 1, 10, 0);
        wonAre("as of 3", x, 30, 70);
    }

    // ---- promise 24: all

    private static void allMen() {
        for (int man : Games.NO_MEN) {
            Refused.is("all of man " + man, x -> x.all(man), BAD);
        }
        Due.is("without events", Games.bare().all(9), 0);
        GlenGames x = parted("50,50", 100, 9, 8, 7, 6, 5, 4, 3, 2, 1, 10);
        Due.is("man 0", x.all(0), 50);
        Due.is("man 9", x.all(9), 50);
    }

    private static void allOfEight() {
        GlenGames x = Games.ofKinds(0, 0, 0, 0, 0, 0, 0, 0);
        Games.type(x, "100");
        x.shares();
        for (int event = 0; event < 8; event++) {
            x.enter(event, 4, true);
            x.entry(event, 4, 1, 0);
            x.purse(event, 100000);
            Due.is("all of " + (event + 1), x.all(4), 100000 * (event + 1));
        }
        x.fail(7, true);
        Due.is("a void one has none", x.all(4), 700000);
        Due.is("another man", x.all(5), 0);
    }

    // ---- promise 25: move

    private static void moveArguments() {
        for (int event : Games.NO_EVENTS) {
            Refused.is("move by event " + event, x -> x.move(event, 0), BAD);
        }
        for (int n : Games.NO_AS_OF) {
            Refused.is("move as of " + n, x -> x.move(1, n), BAD);
        }
        Due.is("as of 0", Games.standing().move(1, 0), 0);
        Due.is("as of all", Games.standing().move(1, STANDING), 2);
    }

    private static void moveCast() {
        Refused.is("move by a throw", x -> x.move(0, STANDING), CAST);
        Refused.is("move by a dance", x -> x.move(2, STANDING), CAST);
        Refused.is("a throw, as of too many: BAD comes first", x -> x.move(0, STANDING + 1), BAD);
        Refused.is("a dance, as of -1: BAD comes first", x -> x.move(2, -1), BAD);
    }

    private static GlenGames raceOf(int... times) {
        GlenGames x = Games.three();
        for (int man = 0; man < times.length; man++) {
            x.entry(RACE, man, times[man], 0);
        }
        return x;
    }

    private static void yardsAre(String name, GlenGames x, int... due) {
        for (int man = 0; man < due.length; man++) {
            Due.is(name + ": yards of " + man, x.yards(man, 0), due[man]);
        }
    }

    private static void moveHowMany() {
        GlenGames none = raceOf();
        Due.is("nobody told", none.move(RACE, 0), 0);
        GlenGames one = raceOf(5);
        Due.is("one alone: 2 - 1 - 1", one.move(RACE, 1), 0);
        yardsAre("one alone", one, 0, 0);
        GlenGames two = raceOf(5, 6);
        Due.is("two", two.move(RACE, 2), 2);
        yardsAre("two", two, -1, 1, 0);
        GlenGames three = raceOf(5, 6, 7);
        Due.is("the middle one of three is as he was", three.move(RACE, 3), 2);
        yardsAre("three", three, -2, 0, 2);
        GlenGames ten = raceOf(10, 11, 12, 13, 14, 15, 16, 17, 18, 19);
        Due.is("all ten", ten.move(RACE, 10), 10);
        yardsAre("all ten", ten, -9, -7, -5, -3, -1, 1, 3, 5, 7, 9);
        GlenGames alike = raceOf(5, 5, 5);
        Due.is("three at place 1: 2 - 1 - 3", alike.move(RACE, 3), 3);
        yardsAre("three at place 1", alike, -2, -2, -2);
    }

    private static void moveHeld() {
        GlenGames x = raceOf(5, 6);
        x.yards(0, -49);
        x.yards(1, 49);
        Due.is("up to the bounds", x.move(RACE, 2), 2);
        Due.is("at the bounds they are as they were", x.move(RACE, 2), 0);
        yardsAre("at the bounds", x, -50, 50);
        GlenGames y = raceOf(5, 6, 7);
        y.yards(0, -49);
        y.yards(2, 49);
        Due.is("held, but not as they were", y.move(RACE, 3), 2);
        yardsAre("held", y, -50, 0, 50);
        GlenGames z = raceOf(5, 6, 7);
        z.yards(0, -47);
        z.yards(2, 47);
        Due.is("one short of the bounds", z.move(RACE, 3), 2);
        yardsAre("one short of the bounds", z, -49, 0, 49);
    }

    private static void moveAsOf() {
        GlenGames x = raceOf(5, 6);
        x.entry(RACE, 0, 9, 0);
        Due.is("as of 2", x.move(RACE, 2), 2);
        Due.is("man 0 was first", x.yards(0, 0), -1);
        Due.is("as of 3", x.move(RACE, 3), 2);
        Due.is("man 0 is last", x.yards(0, 0), 1);
        Due.is("man 1 had 1 and has 0", x.yards(1, 0), 0);
        Due.is("marks are by the yards at the entries", x.mark(RACE, 0, 3, 0), 9);
    }

    private static void moveVoid() {
        GlenGames x = raceOf(5, 6);
        x.fail(RACE, true);
        Due.is("nobody is told", x.move(RACE, 2), 0);
        yardsAre("void", x, 0, 0);
    }

    // ---- promise 29: told

    private static void toldWhat() {
        for (int what : of(-1, 9, LEAST, MOST)) {
            Refused.is("what " + what, x -> x.told(0, what), BAD);
            Refused.is("what " + what + " of no event", x -> x.told(5, what), BAD);
        }
        int[] due = {DANCE, 3, 5, 536, 5000, 0, 2, 5, STANDING};
        for (int what = 0; what <= 8; what++) {
            Due.is("told(2, " + what + ")", Games.standing().told(2, what), due[what]);
        }
        Due.is("void", Games.standing().told(4, 5), 1);
    }

    private static void toldEvents() {
        for (int event : Games.NO_EVENTS) {
            for (int what = 0; what <= 6; what++) {
                int asked = what;
                Refused.is("told " + what + " of event " + event, x -> x.told(event, asked), BAD);
            }
        }
        int[] due = {RACE, 9, 7, 0, 0, 0, 0};
        for (int what = 0; what <= 6; what++) {
            Due.is("told " + what + " of event 7 of eight", Games.withEightEvents().told(7, what), due[what]);
            Due.is("told " + what + " of event 8 of eight", Games.withEightEvents().told(8, what), BAD);
        }
    }

    private static void toldNotLookedAt() {
        for (int event : Games.NO_EVENTS) {
            Due.is("events, of " + event, Games.standing().told(event, 7), 5);
            Due.is("entries, of " + event, Games.standing().told(event, 8), STANDING);
            Due.is("events of a new object, of " + event, Games.bare().told(event, 7), 0);
            Due.is("entries of a new object, of " + event, Games.bare().told(event, 8), 0);
        }
        Due.is("eight events", Games.withEightEvents().told(0, 7), 8);
        Due.is("160 entries", Games.withAllEntries().told(0, 8), 160);
    }

    private static void toldHowManyTold() {
        GlenGames x = Games.three();
        Due.is("none", x.told(RACE, 6), 0);
        for (int man = 0; man < 10; man++) {
            x.entry(RACE, man, 5, 0);
            Due.is("told", x.told(RACE, 6), man + 1);
        }
        x.entry(RACE, 0, 6, 0);
        Due.is("all ten still", x.told(RACE, 6), 10);
        x.fail(RACE, true);
        Due.is("void", x.told(RACE, 6), 0);
        Due.is("place in a void one", x.place(RACE, 0, 11), NOT);
    }
}
