/** Promises 20 to 25 and 29: the tape, shares, purses, moved yards, and what is told. */
public final class PursesTest {
    public static void main(String[] args) {
        types();
        sharesRead();
        sharesFaults();
        faultsChangeNoShares();
        purses();
        wons();
        wonsOfTies();
        wonsWhole();
        alls();
        moves();
        tolds();
        Due.end();
    }

    private static void type(GlenGames x, String text) {
        for (int i = 0; i < text.length(); i++) {
            x.type(text.charAt(i), 1);
        }
    }

    private static int sharesOf(String text) {
        GlenGames x = new GlenGames();
        type(x, text);
        return x.shares();
    }

    /** A throw with men 0 .. n - 1, whose ways are as told. */
    private static GlenGames throwOf(int... ways) {
        GlenGames x = new GlenGames();
        x.event(0, 1, 1);
        for (int man = 0; man < ways.length; man++) {
            x.enter(0, man, true);
            x.entry(0, man, ways[man], 0);
        }
        return x;
    }

    private static void wonAre(String name, GlenGames x, int... due) {
        for (int man = 0; man < due.length; man++) {
            Due.is(name + ": won by " + man, x.won(0, man), due[man]);
        }
    }

    private static void types() {
        GlenGames x = new GlenGames();
        Due.is("n 0", x.type(65, 0), -1);
        Due.is("n 9", x.type(65, 9), -1);
        Due.is("n below 0", x.type(65, -1), -1);
        Due.is("n 9, all bytes well", x.type(0x3030303030303030L, 9), -1);
        Due.is("byte 31", x.type(31, 1), -1);
        Due.is("byte 127", x.type(127, 1), -1);
        Due.is("byte 255", x.type(-1L, 1), -1);
        Due.is("byte 0 in the second place", x.type(65, 2), -1);
        Due.is("byte 128 on top", x.type(0x8041414141414141L, 8), -1);
        Due.is("nothing is on the tape", x.type(' ', 1), 1);
        Due.is("byte 126", x.type(126, 1), 2);
        Due.is("bytes above the n lowest do not matter", x.type(0xFF00FF00FF000030L, 1), 3);
        x.shares();
        Due.is("the highest first", x.type(0x31322C33L, 4), 4);
        Due.is("12,3", x.shares(), 2);
        Due.is("the tape is empty", x.type(0x30, 1), 1);
        Due.is("up to 39", x.type(0x2020202020202020L, 8), 9);
        for (int n = 17; n <= 33; n += 8) {
            Due.is("up to 39", x.type(0x2020202020202020L, 8), n);
        }
        Due.is("39", x.type(0x202020202020L, 6), 39);
        Due.is("two more", x.type(0x2020, 2), -3);
        Due.is("two more, bad", x.type(0x2001, 2), -1);
        Due.is("40", x.type(0x20, 1), 40);
        Due.is("41", x.type(0x20, 1), -3);
        Due.is("the whole tape", x.shares(), 1);
    }

    private static void sharesRead() {
        Due.is("0", sharesOf("0"), 1);
        Due.is("100", sharesOf("100"), 1);
        Due.is("000", sharesOf("000"), 1);
        Due.is("six", sharesOf("20,20,20,20,10,10"), 6);
        Due.is("six of 0", sharesOf("0,0,0,0,0,0"), 6);
        Due.is("blanks", sharesOf("  50  ,  30 ,20  "), 3);
        Due.is("100 together", sharesOf("99,0,001"), 3);
        GlenGames x = throwOf(900, 800, 700, 600);
        x.purse(0, 1000);
        type(x, "25, 25,25,025");
        Due.is("25 four times", x.shares(), 4);
        wonAre("25 four times", x, 250, 250, 250, 250);
        type(x, "100");
        x.shares();
        wonAre("100: those that were there are no more", x, 1000, 0, 0, 0);
    }

    private static void sharesFaults() {
        Due.is("nothing", sharesOf(""), -20);
        Due.is("blanks alone: the end", sharesOf("   "), -23);
        Due.is(",", sharesOf(","), -20);
        Due.is("blank, ,", sharesOf("  ,5"), -22);
        Due.is("no number behind ,", sharesOf("5,"), -22);
        Due.is("no number behind , and blanks", sharesOf("5,  "), -24);
        Due.is("two ,", sharesOf("5,,5"), -22);
        Due.is("two , with a blank", sharesOf("5, ,5"), -23);
        Due.is("a blank in a number", sharesOf("5 0"), -22);
        Due.is("blanks in a number", sharesOf("5   0"), -24);
        Due.is("a letter", sharesOf("5a"), -21);
        Due.is("a letter behind blanks", sharesOf("5  a"), -23);
        Due.is("a letter first", sharesOf("a"), -20);
        Due.is("a sign", sharesOf("-5"), -20);
        Due.is("a letter behind ,", sharesOf("5,b"), -22);
        Due.is("/ is no digit", sharesOf("1/"), -21);
        Due.is(": is no digit", sharesOf("1:"), -21);
        Due.is("four digits", sharesOf("0005"), -20);
        Due.is("four digits later", sharesOf("5, 0005"), -23);
        Due.is("101", sharesOf("101"), -20);
        Due.is("101 behind blanks", sharesOf("  101"), -22);
        Due.is("999", sharesOf("1,999"), -22);
        Due.is("101 together", sharesOf("60,30,11"), -26);
        Due.is("101 together, ahead of a letter", sharesOf("60,41a"), -23);
        Due.is("above 100, ahead of a letter", sharesOf("101a"), -20);
        Due.is("a sixth ,", sharesOf("1,1,1,1,1,1,"), -31);
        Due.is("a sixth , behind a blank", sharesOf("1,1,1,1,1,1 ,1"), -32);
        Due.is("a letter behind the sixth", sharesOf("1,1,1,1,1,1x"), -31);
        Due.is("many digits", sharesOf("9999999999999999999999999999999999999999"), -20);
        Due.is("the end of a full tape", sharesOf("1,                                      "), -60);
    }

    private static void faultsChangeNoShares() {
        GlenGames x = throwOf(900, 800, 700);
        x.purse(0, 100);
        type(x, "50,20,31");
        Due.is("above 100 together", x.shares(), -26);
        wonAre("as they were", x, 60, 30, 10);
        Due.is("the tape is empty behind a fault", x.type('7', 1), 1);
        Due.is("7", x.shares(), 1);
        wonAre("7", x, 7, 0, 0);
    }

    private static void purses() {
        GlenGames x = throwOf(1);
        Due.is("no event", x.purse(1, 5), -1);
        Due.is("no event", x.purse(-1, 5), -1);
        Due.is("below 0", x.purse(0, -1), -1);
        Due.is("100001", x.purse(0, 100001), -1);
        Due.is("100000", x.purse(0, 100000), 0);
        Due.is("it was 100000", x.purse(0, 7), 100000);
        Due.is("told", x.told(0, 4), 7);
        Due.is("0", x.purse(0, 0), 7);
    }

    private static void wons() {
        GlenGames x = throwOf(900, 800, 700, 600);
        x.enter(0, 8, true);
        x.purse(0, 1001);
        wonAre("by the shares together", x, 600, 300, 101, 0);
        Due.is("entered and not told", x.won(0, 8), 0);
        Due.is("not entered", x.won(0, 9), 0);
        Due.is("no such man", x.won(0, 10), -1);
        Due.is("no such man", x.won(0, -1), -1);
        Due.is("no such event", x.won(1, 0), -1);
        x.purse(0, 9);
        wonAre("9 pence", x, 5, 3, 1, 0);
        x.purse(0, 34);
        wonAre("34 pence: 20, 30 and 34 together", x, 20, 10, 4, 0);
        x.purse(0, 100000);
        wonAre("100000 pence", x, 60000, 30000, 10000, 0);
        x.entry(0, 3, 950, 0);
        wonAre("as of all", x, 30000, 10000, 0, 60000);
        x.fail(0, true);
        wonAre("void", x, 0, 0, 0, 0);
    }

    private static void wonsOfTies() {
        GlenGames two = throwOf(500, 900, 900, 400);
        two.purse(0, 101);
        wonAre("two at place 1", two, 11, 45, 45, 0);
        two.purse(0, 102);
        wonAre("two at place 1, one left over", two, 11, 46, 45, 0);
        GlenGames three = throwOf(900, 400, 400, 400);
        three.purse(0, 100);
        wonAre("three at place 2: shares 2 and 3 alone", three, 60, 14, 13, 13);
        three.purse(0, 5);
        wonAre("two left over, for the least", three, 3, 1, 1, 0);
        GlenGames all = throwOf(3, 3, 3, 3, 3, 3, 3, 3, 3, 3);
        all.purse(0, 99999);
        wonAre("ten at place 1", all, 10000, 10000, 10000, 10000, 10000, 10000, 10000, 10000, 10000, 9999);
        GlenGames last = throwOf(9, 8, 7, 7, 7);
        last.purse(0, 1000);
        wonAre("three at the last share", last, 600, 300, 34, 33, 33);
    }

    /** Whatever the ties, the purse is shared out whole where there are men for every share. */
    private static void wonsWhole() {
        for (int pence = 0; pence < 400; pence++) {
            GlenGames x = throwOf(5 + pence % 2, 5, 5 + pence % 3, 4 + pence % 5, 3);
            x.purse(0, pence);
            int together = 0;
            for (int man = 0; man < 5; man++) {
                together += x.won(0, man);
            }
            Due.is("together of " + pence, together, pence);
        }
    }

    private static void alls() {
        GlenGames x = throwOf(900, 800);
        x.event(1, 1, 1);
        x.enter(1, 0, true);
        x.enter(1, 1, true);
        x.entry(1, 0, 100, 0);
        x.entry(1, 1, 90, 0);
        x.event(2, 1, 1);
        x.purse(0, 1000);
        x.purse(1, 100);
        x.purse(2, 50000);
        Due.is("all of 0", x.all(0), 630);
        Due.is("all of 1", x.all(1), 360);
        Due.is("all of 2", x.all(2), 0);
        Due.is("no such man", x.all(10), -1);
        Due.is("no such man", x.all(-1), -1);
        x.fail(1, true);
        Due.is("without the void one", x.all(0), 600);
    }

    private static void moves() {
        GlenGames x = new GlenGames();
        x.event(1, 1, 1);
        x.event(0, 1, 1);
        x.event(2, 1, 1);
        int[] times = {300, 310, 320, 320, 330};
        for (int man = 0; man < 5; man++) {
            x.enter(0, man, true);
            x.entry(0, man, times[man], 0);
        }
        Due.is("no event", x.move(3, 0), -1);
        Due.is("a throw", x.move(1, 0), -12);
        Due.is("a dance", x.move(2, 0), -12);
        Due.is("bad ahead of cast", x.move(2, 6), -1);
        Due.is("as of 0: none is told", x.move(0, 0), 0);
        Due.is("as of 1: one alone has 2 - 1 - 1", x.move(0, 1), 0);
        Due.is("as of 5", x.move(0, 5), 3);
        yardsAre("as of 5", x, -4, -2, 0, 0, 4);
        x.yards(0, -48);
        x.yards(1, -50);
        x.yards(2, 20);
        x.yards(4, 50);
        Due.is("held", x.move(0, 5), 1);
        yardsAre("held", x, -50, -50, 20, 0, 50);
        Due.is("marks by the yards at the entry", x.mark(0, 0, 5, 0), 300);
        x.fail(0, true);
        x.yards(0, 0);
        Due.is("void", x.move(0, 5), 0);
        yardsAre("void", x, 0, 0, 0, 0, 0);
    }

    private static void yardsAre(String name, GlenGames x, int... due) {
        for (int man = 0; man < due.length; man++) {
            Due.is(name + ": yards of " + man, x.yards(man, 0), due[man]);
        }
    }

    private static void tolds() {
        GlenGames x = new GlenGames();
        Due.is("no event", x.told(0, 0), -1);
        Due.is("7 of no event", x.told(-5, 7), 0);
        Due.is("8 of no event", x.told(99, 8), 0);
        x.event(2, 5, 9);
        int[] due = {2, 5, 9, 0, 0, 0, 0, 1, 0};
        toldAre(x, due);
        x.enter(0, 3, true);
        x.enter(0, 9, true);
        x.purse(0, 77);
        for (int judge = 0; judge < 3; judge++) {
            x.entry(0, 3, judge, 1);
            x.entry(0, 9, judge % 2, 1);
        }
        int[] then = {2, 5, 9, 520, 77, 0, 1, 1, 6};
        toldAre(x, then);
        x.fail(0, true);
        int[] failed = {2, 5, 9, 520, 77, 1, 0, 1, 6};
        toldAre(x, failed);
        for (int event : new int[] {-1, 1, 8}) {
            for (int what = 0; what <= 6; what++) {
                Due.is("no such event", x.told(event, what), -1);
            }
        }
        Due.is("what -1", x.told(0, -1), -1);
        Due.is("what 9", x.told(0, 9), -1);
    }

    private static void toldAre(GlenGames x, int[] due) {
        for (int what = 0; what < due.length; what++) {
            Due.is("told(0, " + what + ")", x.told(0, what), due[what]);
        }
    }
}
