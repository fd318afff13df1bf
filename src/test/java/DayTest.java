/** Promises 2 to 9: events, men, the day, calls, and the order. */
public final class DayTest {
    private static final int[] WRONG = {-1, 8, 9, Integer.MIN_VALUE, Integer.MAX_VALUE};

    public static void main(String[] args) {
        events();
        enters();
        days();
        calls();
        layRefusals();
        layOrder();
        layGaps();
        layMenAndRest();
        layCalled();
        layKeepsTheLast();
        idles();
        Due.end();
    }

    private static GlenGames games(int[]... events) {
        GlenGames x = new GlenGames();
        for (int[] e : events) {
            x.event(e[0], e[1], e[2]);
        }
        return x;
    }

    private static int[] of(int kind, int parts, int spells) {
        return new int[] {kind, parts, spells};
    }

    private static void orderIs(String name, GlenGames x, int... due) {
        Due.is(name + ": order(-1)", x.order(-1), due.length);
        for (int i = 0; i < due.length; i++) {
            Due.is(name + ": order(" + i + ")", x.order(i), due[i]);
        }
        Due.is(name + ": order(" + due.length + ")", x.order(due.length), -1);
    }

    private static void beginsAre(String name, GlenGames x, int... due) {
        for (int i = 0; i < due.length; i++) {
            Due.is(name + ": begins(" + i + ")", x.begins(i), due[i]);
        }
    }

    private static void events() {
        GlenGames x = new GlenGames();
        Due.is("kind -1", x.event(-1, 1, 1), -1);
        Due.is("kind 3", x.event(3, 1, 1), -1);
        Due.is("parts 0", x.event(0, 0, 1), -1);
        Due.is("parts 16", x.event(0, 16, 1), -1);
        Due.is("parts -1", x.event(0, -1, 1), -1);
        Due.is("spells 0", x.event(0, 1, 0), -1);
        Due.is("spells 13", x.event(0, 1, 13), -1);
        Due.is("none of these is an event", x.told(0, 7), 0);
        for (int i = 0; i < 8; i++) {
            Due.is("event " + i, x.event(i % 3, 15 - i, 12 - i), i);
            Due.is("kind", x.told(i, 0), i % 3);
            Due.is("parts", x.told(i, 1), 15 - i);
            Due.is("spells", x.told(i, 2), 12 - i);
        }
        Due.is("a ninth", x.event(0, 1, 1), -3);
        Due.is("a ninth that is bad", x.event(0, 0, 1), -1);
        Due.is("how many", x.told(0, 7), 8);
    }

    private static void enters() {
        GlenGames x = games(of(0, 1, 1), of(1, 1, 1), of(2, 1, 1));
        Due.is("no such event", x.enter(3, 0, true), -1);
        Due.is("no such event", x.enter(-1, 0, true), -1);
        Due.is("no such man", x.enter(0, 10, true), -1);
        Due.is("no such man", x.enter(0, -1, true), -1);
        for (int man = 0; man < 10; man++) {
            Due.is("enter " + man, x.enter(0, man, true), man + 1);
        }
        Due.is("again", x.enter(0, 9, true), 10);
        Due.is("men", x.told(0, 3), 1023);
        Due.is("men of another event", x.told(1, 3), 0);
        Due.is("not any more", x.enter(0, 4, false), 9);
        Due.is("not any more, again", x.enter(0, 4, false), 9);
        Due.is("men", x.told(0, 3), 1023 - 16);
        x.enter(1, 5, true);
        x.entry(1, 5, 10, 0);
        Due.is("he has entries", x.enter(1, 5, false), -2);
        Due.is("he stays", x.told(1, 3), 32);
        Due.is("he is to be in it", x.enter(1, 5, true), 1);
        Due.is("entries in another event do not matter", x.enter(0, 5, false), 8);
        Due.is("entries of another man do not matter", x.enter(1, 6, false), 1);
    }

    private static void days() {
        GlenGames x = games(of(0, 1, 5));
        int[][] bad = {{0, 0}, {61, 0}, {-1, 0}, {10, -1}, {10, 7}};
        for (int[] d : bad) {
            Due.is("day " + d[0] + ", " + d[1], x.day(d[0], d[1]), -1);
        }
        Due.is("day(1, 0)", x.day(1, 0), 1);
        Due.is("too short", x.lay(1), -2);
        Due.is("day(60, 6)", x.day(60, 6), 1);
        Due.is("long enough", x.lay(1), 5);
        Due.is("day(5, 0)", x.day(5, 0), 1);
        Due.is("just enough", x.lay(1), 5);
        Due.is("day(4, 0)", x.day(4, 0), 1);
        Due.is("one too few", x.lay(1), -2);
    }

    private static void calls() {
        GlenGames x = games(of(0, 1, 1), of(0, 2, 1), of(0, 4, 1));
        Due.is("one and the same", x.call(1, 1), -1);
        Due.is("no such event", x.call(3, 0), -1);
        Due.is("no such other", x.call(0, 3), -1);
        Due.is("below 0", x.call(-1, 0), -1);
        for (int i = 1; i <= 8; i++) {
            Due.is("pair " + i, x.call(i % 2, 2), i);
        }
        Due.is("a ninth pair", x.call(1, 2), -3);
        Due.is("a ninth that is bad", x.call(2, 2), -1);
    }

    private static void layRefusals() {
        GlenGames x = new GlenGames();
        Due.is("no events", x.lay(1), -1);
        for (int i = 0; i < 8; i++) {
            x.event(0, 1, 1);
            Due.is("one that is not there", x.lay(1 << i + 1), -1);
            Due.is("begins() ahead of a lay", x.begins(i), -1);
        }
        Due.is("none", x.lay(0), -1);
        Due.is("below 0", x.lay(-1), -1);
        Due.is("below 0", x.lay(Integer.MIN_VALUE), -1);
        Due.is("bit 8", x.lay(257), -1);
        Due.is("seven", x.lay(127), -3);
        Due.is("eight", x.lay(255), -3);
        Due.is("seven and one that is not there", x.lay(127 + 256), -1);
        Due.is("nothing is laid yet", x.order(-1), 0);
        Due.is("six", x.lay(252), 6);
        orderIs("six", x, 2, 3, 4, 5, 6, 7);
        Due.is("order(-2)", x.order(-2), -1);
        Due.is("order(least)", x.order(Integer.MIN_VALUE), -1);
        Due.is("not among them", x.begins(0), -2);
        for (int e : WRONG) {
            Due.is("begins(" + e + ")", x.begins(e), -1);
        }
    }

    /** Of like orders the first by numbers; a later one only if it ends sooner. */
    private static void layOrder() {
        GlenGames x = games(of(0, 1, 3), of(0, 2, 2), of(0, 3, 4));
        Due.is("lay(7)", x.lay(7), 7);
        orderIs("all orders by numbers", x, 0, 1, 2);
        beginsAre("all orders by numbers", x, 0, 0, 3);

        GlenGames y = games(of(0, 1, 2), of(0, 1, 2), of(0, 2, 6), of(0, 2, 1));
        y.enter(0, 0, true);
        y.enter(2, 0, true);
        Due.is("the long one first", y.lay(5), 9);
        orderIs("the long one first", y, 0, 2);
        y.enter(1, 1, true);
        y.enter(3, 1, true);
        y.call(3, 1);
        Due.is("3 ahead of 1", y.lay(10), 4);
        orderIs("3 ahead of 1", y, 3, 1);
    }

    /** An event may be laid ahead of one that is laid already, where there is room. */
    private static void layGaps() {
        GlenGames x = games(of(0, 1, 4), of(0, 3, 2), of(0, 2, 4), of(0, 2, 1));
        Due.is("a gap that is just wide enough", x.lay(7), 6);
        orderIs("a gap that is just wide enough", x, 0, 1, 2);
        beginsAre("a gap that is just wide enough", x, 0, 4, 0);
        Due.is("a gap that is too narrow", x.lay(15), 7);
        orderIs("a gap that is too narrow", x, 0, 1, 2, 3);
        beginsAre("a gap that is too narrow", x, 0, 4, 0, 6);
    }

    private static void layMenAndRest() {
        GlenGames x = games(of(0, 1, 3), of(1, 2, 2));
        x.enter(0, 4, true);
        x.enter(1, 5, true);
        Due.is("no man of both", x.lay(3), 3);
        x.enter(1, 4, true);
        for (int rest = 0; rest <= 6; rest++) {
            x.day(60, rest);
            Due.is("a man of both, rest " + rest, x.lay(3), 5 + rest);
            Due.is("the first", x.begins(0), 0);
            Due.is("the second", x.begins(1), 3 + rest);
            x.day(5 + rest, rest);
            Due.is("the day is just long enough", x.lay(3), 5 + rest);
            x.day(4 + rest, rest);
            Due.is("the day is too short", x.lay(3), -2);
        }
        GlenGames y = games(of(0, 1, 6), of(0, 1, 2), of(0, 2, 3), of(0, 4, 3));
        y.enter(1, 0, true);
        y.enter(2, 0, true);
        y.enter(3, 0, true);
        y.day(60, 3);
        Due.is("ahead of a laid one, with rest", y.lay(7), 8);
        orderIs("ahead of a laid one, with rest", y, 0, 1, 2);
        beginsAre("ahead of a laid one, with rest", y, 0, 6, 0);
        y.day(60, 4);
        Due.is("ahead of a laid one, without rest", y.lay(7), 9);
    }

    private static void layCalled() {
        GlenGames x = games(of(0, 1, 3), of(0, 2, 2), of(0, 4, 4));
        x.call(2, 0);
        Due.is("2 ahead of 0", x.lay(7), 7);
        orderIs("2 ahead of 0", x, 1, 2, 0);
        beginsAre("2 ahead of 0", x, 4, 0, 0);
        Due.is("2 is not laid", x.lay(3), 3);
        beginsAre("2 is not laid", x, 0, 0, -2);
        x.call(0, 1);
        Due.is("one behind the other", x.lay(7), 9);
        orderIs("one behind the other", x, 2, 0, 1);
        x.call(1, 2);
        Due.is("a ring", x.lay(7), -2);
        Due.is("a part of the ring", x.lay(6), 6);

        GlenGames y = games(of(0, 1, 4), of(0, 1, 1), of(0, 2, 4), of(0, 2, 5));
        y.call(2, 1);
        Due.is("one that is laid stays, and the called one goes ahead of it", y.lay(7), 5);
        orderIs("one that is laid stays", y, 0, 1, 2);
        beginsAre("one that is laid stays", y, 0, 4, 0);
        y.call(3, 1);
        Due.is("no room ahead of it", y.lay(11), 6);
        orderIs("no room ahead of it", y, 0, 3, 1);
    }

    private static void layKeepsTheLast() {
        GlenGames x = games(of(0, 1, 3), of(0, 1, 2), of(0, 1, 6));
        Due.is("lay(3)", x.lay(3), 5);
        x.day(10, 0);
        Due.is("no order", x.lay(7), -2);
        Due.is("bad", x.lay(0), -1);
        orderIs("the latest that told a spell", x, 0, 1);
        beginsAre("the latest that told a spell", x, 0, 3, -2);
        Due.is("a new event", x.event(0, 1, 1), 3);
        Due.is("a new event is not among them", x.begins(3), -2);
        Due.is("lay(4)", x.lay(4), 6);
        orderIs("a new lay", x, 2);
        beginsAre("a new lay", x, -2, -2, 0, -2);
    }

    private static void idles() {
        GlenGames x = games(of(0, 1, 3), of(1, 1, 2), of(2, 1, 4), of(0, 2, 2));
        Due.is("ahead of a lay", x.idle(0), -1);
        x.enter(0, 0, true);
        x.enter(2, 0, true);
        x.enter(1, 1, true);
        Due.is("lay(7)", x.lay(7), 9);
        Due.is("between his two", x.idle(0), 2);
        Due.is("one alone", x.idle(1), 0);
        Due.is("in none", x.idle(2), -2);
        Due.is("no such man", x.idle(10), -1);
        Due.is("no such man", x.idle(-1), -1);
        x.enter(1, 0, true);
        Due.is("of those entered now", x.idle(0), 0);
        x.enter(1, 0, false);
        x.enter(2, 0, false);
        Due.is("not entered any more", x.idle(0), 0);
        x.enter(0, 0, false);
        Due.is("in none any more", x.idle(0), -2);
        x.enter(3, 5, true);
        Due.is("his event is not laid", x.idle(5), -2);
        Due.is("two at one time", x.lay(13), 7);
        x.enter(0, 5, true);
        x.enter(2, 5, true);
        Due.is("spells of two events count once", x.idle(5), 0);
        x.day(5, 0);
        Due.is("the day by that lay", x.idle(5), 0);
    }
}
