/** Promises 10 to 13 and 15 to 19: stones, ways, yards, entries, marks, places, paradoxes. */
public final class EntriesTest {
    private static final int FAULT = -1;

    public static void main(String[] args) {
        stones();
        ways();
        yards();
        entryOfThrow();
        entryOfRace();
        entryOfDance();
        entriesFull();
        throwMarks();
        throwTies();
        raceMarks();
        danceMarks();
        asOf();
        places();
        fails();
        paradoxes();
        paradoxRefusals();
        settled();
        Due.end();
    }

    /** Event 0 a throw, 1 a race, 2 a dance, with men 0 to 5 in all of them. */
    private static GlenGames three() {
        GlenGames x = new GlenGames();
        for (int kind = 0; kind < 3; kind++) {
            x.event(kind, 1, 1);
            for (int man = 0; man < 6; man++) {
                x.enter(kind, man, true);
            }
        }
        return x;
    }

    private static void dance(GlenGames x, int man, int... placed) {
        for (int judge = 0; judge < placed.length; judge++) {
            x.entry(2, man, judge, placed[judge]);
        }
    }

    private static int now(GlenGames x) {
        return x.told(0, 8);
    }

    private static void marksAre(String name, GlenGames x, int man, int... due) {
        for (int k = 0; k < due.length; k++) {
            Due.is(name + ": mark " + k, x.mark(0, man, now(x), k), due[k]);
        }
    }

    private static void placesAre(String name, GlenGames x, int event, int n, int... due) {
        for (int man = 0; man < due.length; man++) {
            Due.is(name + ": place of " + man + " as of " + n, x.place(event, man, n), due[man]);
        }
    }

    private static void stones() {
        GlenGames x = three();
        x.entry(0, 0, 9999, 0);
        int[][] bad = {{3, 1000, 0}, {-1, 1000, 0}, {0, 999, 0}, {0, 30001, 0}, {0, 1000, 101}, {0, 1000, -101}};
        for (int[] b : bad) {
            Due.is("stone", x.stone(b[0], b[1], b[2]), -1);
        }
        Due.is("bad ahead of cast", x.stone(1, 999, 0), -1);
        Due.is("a race", x.stone(1, 1000, 0), -12);
        Due.is("a dance", x.stone(2, 1000, 0), -12);
        marksAre("none of these changed a thing", x, 0, 9999);
        Due.is("the least", x.stone(0, 1000, -100), 1);
        marksAre("the least", x, 0, 1099);
        Due.is("the greatest", x.stone(0, 30000, 100), 1);
        marksAre("the greatest", x, 0, 26997);
        Due.is("beyond an int on the way", x.stone(0, 30000, -100), 1);
        marksAre("beyond an int on the way", x, 0, 32996);
    }

    private static void ways() {
        GlenGames x = three();
        Due.is("no event", x.way(3, 100), -1);
        Due.is("99", x.way(1, 99), -1);
        Due.is("2001", x.way(1, 2001), -1);
        Due.is("bad ahead of cast", x.way(0, 99), -1);
        Due.is("a throw", x.way(0, 100), -12);
        Due.is("a dance", x.way(2, 100), -12);
        Due.is("100", x.way(1, 100), 220);
        Due.is("2000", x.way(1, 2000), 100);
        Due.is("220", x.way(1, 220), 2000);
    }

    private static void yards() {
        GlenGames x = new GlenGames();
        int[][] bad = {{-1, 0}, {10, 0}, {0, 51}, {0, -51}};
        for (int[] b : bad) {
            Due.is("yards", x.yards(b[0], b[1]), -1001);
        }
        Due.is("50", x.yards(9, 50), 0);
        Due.is("-50", x.yards(9, -50), 50);
        Due.is("-1 is no fault", x.yards(9, -1), -50);
        Due.is("it was -1", x.yards(9, 0), -1);
        Due.is("another man's", x.yards(0, 0), 0);
    }

    private static void entryOfThrow() {
        GlenGames x = three();
        int[][] bad = {{3, 0, 1, 0}, {-1, 0, 1, 0}, {0, 6, 1, 0}, {0, 10, 1, 0}, {0, -1, 1, 0}, {0, 0, -2, 0},
            {0, 0, 10000, 0}, {0, 0, 1, 21}, {0, 0, 1, -21}, {0, 0, FAULT, 21}};
        allBad(x, bad);
        int[][] good = {{0, 0, 0, 0}, {0, 0, 9999, 20}, {0, 5, FAULT, -20}, {0, 5, 7, -20}};
        allGood(x, good);
    }

    private static void entryOfRace() {
        GlenGames x = three();
        int[][] bad = {{1, 6, 1, 0}, {1, 0, 0, 0}, {1, 0, -1, 0}, {1, 0, 10000, 0}, {1, 0, 5, 1}, {1, 0, 5, -1}};
        allBad(x, bad);
        int[][] good = {{1, 0, 1, 0}, {1, 0, 9999, 0}, {1, 5, 300, 0}};
        allGood(x, good);
    }

    private static void entryOfDance() {
        GlenGames x = three();
        int[][] bad = {{2, 6, 0, 1}, {2, 0, -1, 1}, {2, 0, 3, 1}, {2, 0, 0, 0}, {2, 0, 0, 10}, {2, 0, 0, -1}};
        allBad(x, bad);
        int[][] good = {{2, 0, 0, 1}, {2, 0, 2, 9}, {2, 5, 1, 5}};
        allGood(x, good);
    }

    private static void allBad(GlenGames x, int[][] entries) {
        for (int[] e : entries) {
            Due.is("entry(" + e[0] + ", " + e[1] + ", " + e[2] + ", " + e[3] + ")",
                x.entry(e[0], e[1], e[2], e[3]), -1);
        }
        Due.is("none of these is an entry", now(x), 0);
    }

    private static void allGood(GlenGames x, int[][] entries) {
        for (int i = 0; i < entries.length; i++) {
            int[] e = entries[i];
            Due.is("entry(" + e[0] + ", " + e[1] + ", " + e[2] + ", " + e[3] + ")",
                x.entry(e[0], e[1], e[2], e[3]), i);
        }
        Due.is("all of these are entries", now(x), entries.length);
    }

    private static void entriesFull() {
        GlenGames x = three();
        for (int i = 0; i < 160; i++) {
            Due.is("entry " + i, x.entry(i % 2, i % 6, 1 + i, 0), i);
        }
        Due.is("full", x.entry(0, 0, 1, 0), -3);
        Due.is("bad ahead of full", x.entry(0, 0, 10000, 0), -1);
        Due.is("as of all", x.mark(0, 0, 160, 0), 157);
        Due.is("as of more", x.mark(0, 0, 161, 0), -1);
    }

    private static void throwMarks() {
        GlenGames x = three();
        Due.is("no try", x.mark(0, 0, 0, 0), -2);
        x.entry(0, 0, FAULT, 0);
        marksAre("a fault alone", x, 0, -1, -1, -1, -1, -1, -1);
        Due.is("a fault alone has a place", x.place(0, 0, 1), 1);
        x.entry(0, 0, 0, 0);
        marksAre("0 is ahead of a fault", x, 0, 0, -1, -1, -1, -1, -1);
        x.entry(0, 0, 500, 0);
        x.entry(0, 0, 700, 0);
        x.entry(0, 0, 600, 0);
        x.entry(0, 0, 500, 0);
        marksAre("six, the greatest first", x, 0, 700, 600, 500, 500, 0, -1);
        x.entry(0, 0, 100, 0);
        marksAre("the fault is the seventh from the end", x, 0, 700, 600, 500, 500, 100, 0);
        x.entry(0, 0, FAULT, 0);
        marksAre("the 0 is the seventh from the end", x, 0, 700, 600, 500, 500, 100, -1);
        x.entry(0, 1, 9000, 0);
        marksAre("tries of another man push none out", x, 0, 700, 600, 500, 500, 100, -1);
        x.entry(0, 2, 1000, 20);
        marksAre("wind from behind", x, 2, 960);
        x.entry(0, 2, 1000, -20);
        marksAre("wind ahead", x, 2, 1040, 960);
        x.stone(0, 10000, 33);
        marksAre("slope, cut down", x, 2, 1007, 927);
        Due.is("mark 6", x.mark(0, 0, now(x), 6), -1);
        Due.is("mark 6 of one who has none", x.mark(0, 5, now(x), 6), -1);
        x.entry(0, 3, FAULT, 0);
        x.stone(0, 1000, 0);
        marksAre("a fault with a light stone", x, 3, -1);
        Due.is("mark -1", x.mark(0, 0, 1, -1), -1);
    }

    private static void throwTies() {
        GlenGames x = three();
        int[][] tries = {{0, 500}, {1, 500}, {0, 400}, {1, 401}, {2, 500}, {2, 401}, {3, FAULT}, {4, FAULT}, {4, 0}};
        for (int[] t : tries) {
            x.entry(0, t[0], t[1], 0);
        }
        placesAre("the next best", x, 0, 9, 3, 1, 1, 5, 4, -2);
        x.entry(0, 2, FAULT, 0);
        placesAre("a fault is as no try", x, 0, 10, 3, 1, 1, 5, 4, -2);
        x.entry(0, 2, 0, 0);
        placesAre("0 is more than no try", x, 0, 11, 3, 2, 1, 5, 4, -2);
    }

    private static void raceMarks() {
        GlenGames x = three();
        x.yards(0, 50);
        x.yards(1, -50);
        x.entry(1, 0, 100, 0);
        x.entry(1, 1, 100, 0);
        x.entry(1, 2, 100, 0);
        x.yards(0, 0);
        Due.is("50 ahead", x.mark(1, 0, 3, 0), 129);
        Due.is("50 behind", x.mark(1, 1, 3, 0), 81);
        Due.is("on the line", x.mark(1, 2, 3, 0), 100);
        x.way(1, 100);
        Due.is("50 ahead of 100", x.mark(1, 0, 3, 0), 200);
        Due.is("50 behind of 100", x.mark(1, 1, 3, 0), 66);
        placesAre("the less", x, 1, 3, 3, 1, 2, -2, -2, -2);
        x.entry(1, 0, 99, 0);
        Due.is("the latest, with the yards at it", x.mark(1, 0, 4, 0), 99);
        Due.is("as of the one ahead of it", x.mark(1, 0, 3, 0), 200);
        x.entry(1, 0, 9999, 0);
        Due.is("the latest, though it is worse", x.mark(1, 0, 5, 0), 9999);
        x.way(1, 2000);
        x.yards(3, 50);
        x.entry(1, 3, 9999, 0);
        Due.is("the greatest numbers", x.mark(1, 3, 6, 0), 10255);
        Due.is("no time", x.mark(1, 4, 6, 0), -2);
        Due.is("mark 1 of a race", x.mark(1, 0, 6, 1), -1);
        Due.is("mark 1 of one who has none", x.mark(1, 4, 6, 1), -1);
        Due.is("a man who is not entered", x.mark(1, 9, 6, 0), -2);
    }

    private static void danceMarks() {
        GlenGames x = three();
        int[][] all = {{1, 2, 3}, {1, 3, 2}, {2, 1, 3}, {2, 3, 1}, {3, 1, 2}, {3, 2, 1}};
        for (int man = 0; man < 6; man++) {
            dance(x, man, all[man]);
            Due.is("the middle one of three", x.mark(2, man, now(x), 0), 206);
        }
        placesAre("all alike", x, 2, now(x), 1, 1, 1, 1, 1, 1);
        x.entry(2, 0, 2, 9);
        Due.is("the latest of a judge", x.mark(2, 0, now(x), 0), 212);
        x.entry(2, 0, 0, 9);
        Due.is("the latest of another judge", x.mark(2, 0, now(x), 0), 920);
        x.entry(2, 0, 1, 9);
        Due.is("9, 9, 9", x.mark(2, 0, now(x), 0), 927);
        placesAre("the less is ahead", x, 2, now(x), 6, 1, 1, 1, 1, 1);
        GlenGames y = three();
        dance(y, 0, 1, 1);
        Due.is("two judges", y.mark(2, 0, 2, 0), -2);
        Due.is("two judges, no place", y.place(2, 0, 2), -2);
        y.entry(2, 0, 1, 2);
        Due.is("still two judges", y.mark(2, 0, 3, 0), -2);
        y.entry(2, 0, 2, 1);
        Due.is("three judges", y.mark(2, 0, 4, 0), 104);
        Due.is("mark 1 of a dance", y.mark(2, 0, 4, 1), -1);
        for (int missing = 0; missing < 3; missing++) {
            GlenGames z = three();
            z.entry(2, 0, (missing + 1) % 3, 1);
            z.entry(2, 0, (missing + 2) % 3, 1);
            Due.is("without judge " + missing, z.mark(2, 0, 2, 0), -2);
        }
    }

    private static void asOf() {
        GlenGames x = three();
        x.entry(0, 0, 100, 0);
        x.entry(1, 0, 100, 0);
        x.entry(0, 0, 200, 0);
        Due.is("as of 0", x.mark(0, 0, 0, 0), -2);
        Due.is("as of 1", x.mark(0, 0, 1, 0), 100);
        Due.is("as of 2", x.mark(0, 0, 2, 0), 100);
        Due.is("as of 3", x.mark(0, 0, 3, 0), 200);
        Due.is("as of 1, the race", x.mark(1, 0, 1, 0), -2);
        int[] wrong = {-1, 4, Integer.MAX_VALUE, Integer.MIN_VALUE};
        for (int n : wrong) {
            Due.is("mark as of " + n, x.mark(0, 0, n, 0), -1);
            Due.is("place as of " + n, x.place(0, 0, n), -1);
            Due.is("paradox as of " + n, x.paradox(2, n), -1);
            Due.is("move as of " + n, x.move(1, n), -1);
        }
        Due.is("mark of no event", x.mark(3, 0, 0, 0), -1);
        Due.is("mark of no man", x.mark(0, 10, 0, 0), -1);
        Due.is("mark of no man", x.mark(0, -1, 0, 0), -1);
    }

    private static void places() {
        GlenGames x = three();
        int[] times = {300, 310, 300, 320, 310, 290};
        for (int man = 0; man < 6; man++) {
            x.entry(1, man, times[man], 0);
        }
        placesAre("as many as are ahead, and 1", x, 1, 6, 2, 4, 2, 6, 4, 1);
        placesAre("as of 5", x, 1, 5, 1, 3, 1, 5, 3, -2);
        placesAre("as of 0", x, 1, 0, -2, -2, -2, -2, -2, -2);
        Due.is("not entered", x.place(1, 9, 6), -2);
        Due.is("no such man", x.place(1, 10, 6), -1);
        Due.is("no such man", x.place(1, -1, 6), -1);
        Due.is("no such event", x.place(3, 0, 6), -1);
    }

    private static void fails() {
        GlenGames x = three();
        x.entry(1, 0, 100, 0);
        Due.is("no event", x.fail(3, true), -1);
        Due.is("no event", x.fail(-1, false), -1);
        Due.is("it was not", x.fail(1, false), 0);
        Due.is("it was not", x.fail(1, true), 0);
        Due.is("it was", x.fail(1, true), 1);
        Due.is("void: no place", x.place(1, 0, 1), -2);
        Due.is("void: a mark", x.mark(1, 0, 1, 0), 100);
        Due.is("void: an entry may come", x.entry(1, 1, 90, 0), 1);
        Due.is("another event", x.told(0, 5), 0);
        Due.is("it was", x.fail(1, false), 1);
        Due.is("not void any more", x.place(1, 0, 2), 2);
    }

    private static void paradoxes() {
        GlenGames x = three();
        dance(x, 1, 2, 6, 1);
        dance(x, 2, 1, 5, 9);
        Due.is("place by the middle one", x.place(2, 2, 6), 2);
        Due.is("two judges against one", x.paradox(2, 6), 2);
        Due.is("as of 5 he is alone", x.paradox(2, 5), -2);
        Due.is("as of 0", x.paradox(2, 0), -2);
        dance(x, 3, 8, 8, 8);
        Due.is("against each other one", x.paradox(2, now(x)), 2);
        x.entry(2, 3, 0, 1);
        Due.is("a like place is not less", x.paradox(2, now(x)), -2);
        x.entry(2, 3, 0, 2);
        Due.is("by two judges again", x.paradox(2, now(x)), 2);
        dance(x, 0, 9, 9, 9);
        Due.is("one who is behind does not matter", x.paradox(2, now(x)), 2);
        dance(x, 4, 1, 1);
        Due.is("one who is not judged does not matter", x.paradox(2, now(x)), 2);
        x.fail(2, true);
        Due.is("none in a void one", x.paradox(2, now(x)), -2);
        x.fail(2, false);
        x.entry(2, 2, 2, 1);
        Due.is("now he is at place 1", x.place(2, 2, now(x)), 1);
        Due.is("at place 1 it is none", x.paradox(2, now(x)), -2);
    }

    private static void paradoxRefusals() {
        GlenGames x = three();
        Due.is("no event", x.paradox(3, 0), -1);
        Due.is("a throw", x.paradox(0, 0), -12);
        Due.is("a race", x.paradox(1, 0), -12);
        Due.is("bad ahead of cast", x.paradox(1, 1), -1);
        Due.is("nobody", x.paradox(2, 0), -2);
        dance(x, 0, 5, 5, 5);
        dance(x, 1, 1, 1);
        Due.is("one who is not judged is none", x.paradox(2, now(x)), -2);
        GlenGames y = three();
        dance(y, 0, 1, 2, 3);
        dance(y, 1, 2, 3, 1);
        dance(y, 2, 3, 1, 2);
        Due.is("a ring has nobody ahead of all", y.paradox(2, now(y)), -2);
        GlenGames z = three();
        dance(z, 0, 1, 5, 9);
        dance(z, 1, 2, 6, 1);
        Due.is("man 0", z.paradox(2, now(z)), 0);
        dance(z, 2, 1, 5, 9);
        Due.is("two alike are not ahead of each other", z.paradox(2, now(z)), -2);
        z.entry(2, 2, 1, 4);
        Due.is("by one judge alone", z.paradox(2, now(z)), -2);
        z.entry(2, 2, 2, 8);
        Due.is("man 2 is against man 0 as well", z.place(2, 2, now(z)), 2);
        Due.is("man 2", z.paradox(2, now(z)), 2);
    }

    private static void settled() {
        GlenGames x = three();
        Due.is("no event", x.settled(3), -1);
        Due.is("no event", x.settled(-1), -1);
        Due.is("no entries", x.settled(1), 0);
        GlenGames y = three();
        y.entry(1, 0, 100, 0);
        Due.is("the first entry", y.settled(1), 1);
        y.entry(1, 0, 90, 0);
        Due.is("one man alone", y.settled(1), 1);
        GlenGames z = three();
        z.entry(2, 0, 0, 1);
        Due.is("an entry that tells no place yet", z.settled(2), 0);
        x.entry(0, 0, 100, 0);
        Due.is("none of its entries", x.settled(1), 0);
        x.entry(1, 0, 100, 0);
        x.entry(1, 1, 200, 0);
        Due.is("all told", x.settled(1), 3);
        x.entry(1, 1, 150, 0);
        x.entry(0, 1, 300, 0);
        Due.is("the same places", x.settled(1), 3);
        x.entry(1, 1, 90, 0);
        Due.is("the other way round", x.settled(1), 6);
        x.entry(1, 1, 110, 0);
        Due.is("back again: what lies between counts", x.settled(1), 7);
        x.entry(1, 1, 120, 0);
        Due.is("and stays", x.settled(1), 7);
        Due.is("the throw", x.settled(0), 5);
        x.way(1, 2000);
        x.fail(1, true);
        Due.is("void", x.settled(1), 0);
    }
}
