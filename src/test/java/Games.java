/** Games in the states that tests begin from, made by the same calls each time. */
final class Games {
    private static final int LEAST = Integer.MIN_VALUE, MOST = Integer.MAX_VALUE;

    /** How many entries the standing games have. */
    static final int STANDING = 13;
    /** What is no event of the standing games, no man, and no number as of which they can be asked. */
    static final int[] NO_EVENTS = {-1, 5, 8, LEAST, MOST};
    static final int[] NO_MEN = {-1, 10, 32, LEAST, MOST};
    static final int[] NO_AS_OF = {-1, STANDING + 1, 160, 161, LEAST, MOST};

    private Games() { }

    static GlenGames bare() {
        return new GlenGames();
    }

    /** Events of one kind after the other, each on part 0 and one spell long. */
    static GlenGames ofKinds(int... kinds) {
        GlenGames x = new GlenGames();
        for (int kind : kinds) {
            x.event(kind, 1, 1);
        }
        return x;
    }

    /** Event 0 a throw, 1 a race, 2 a dance, with all ten men in each. */
    static GlenGames three() {
        GlenGames x = ofKinds(0, 1, 2);
        for (int event = 0; event < 3; event++) {
            enterAll(x, event);
        }
        return x;
    }

    static void enterAll(GlenGames x, int event) {
        for (int man = 0; man < 10; man++) {
            x.enter(event, man, true);
        }
    }

    /** Something of all there is: five events, a lay, pairs, entries, purses, yards, a text and sheets. */
    static GlenGames standing() {
        GlenGames x = new GlenGames();
        standEvents(x);
        standEntries(x);
        x.purse(0, 1003);
        x.purse(1, 77);
        x.purse(2, 5000);
        type(x, "40,30,20");
        x.shares();
        type(x, "50, 30");
        row(x, 0, 0, 1, 50, 2, 60, 3, 70, 9);
        row(x, 1, 1, 0, 500, 3, 600);
        row(x, 3, 2, 2, 9000, 1, 8000, 0, 7000);
        x.fail(4, true);
        return x;
    }

    private static void standEvents(GlenGames x) {
        x.event(0, 1, 4);
        x.event(1, 2, 3);
        x.event(2, 3, 5);
        x.event(1, 4, 12);
        x.event(0, 8, 2);
        for (int man = 0; man < 4; man++) {
            x.enter(0, man, true);
            x.enter(1, man, true);
        }
        x.enter(2, 3, true);
        x.enter(2, 4, true);
        x.enter(2, 9, true);
        x.enter(3, 0, true);
        x.enter(3, 5, true);
        x.enter(4, 5, true);
        // all five end at spell 23, so a shorter day shows
        x.day(23, 2);
        x.call(1, 0);
        x.call(4, 3);
        x.lay(15);
    }

    private static void standEntries(GlenGames x) {
        x.stone(0, 12000, 5);
        x.way(1, 300);
        x.yards(0, 20);
        x.yards(1, -7);
        x.entry(0, 0, 3000, 4);
        x.entry(0, 1, 2900, -4);
        x.entry(0, 0, -1, 0);
        x.entry(0, 2, 3000, 4);
        x.entry(1, 0, 300, 0);
        x.entry(1, 1, 300, 0);
        x.entry(1, 3, 290, 0);
        int[][] placed = {{3, 2, 6, 1}, {4, 1, 5, 9}};
        for (int[] p : placed) {
            for (int judge = 0; judge < 3; judge++) {
                x.entry(2, p[0], judge, p[1 + judge]);
            }
        }
        x.yards(2, 11);
    }

    static GlenGames withEightEvents() {
        GlenGames x = standing();
        x.event(2, 1, 12);
        x.event(0, 15, 1);
        x.event(1, 9, 7);
        return x;
    }

    static GlenGames withEightPairs() {
        GlenGames x = standing();
        for (int i = 0; i < 6; i++) {
            x.call(4, i % 4);
        }
        return x;
    }

    static GlenGames withAllEntries() {
        GlenGames x = standing();
        x.sheet(2, 0, 60);
        for (int i = 0; i < 30; i++) {
            x.item(2, 0, 2 * i + 1, 90 + i);
        }
        for (int i = 0; i < 4; i++) {
            x.entries(1, 2, 0, 0, 30);
        }
        x.entries(1, 2, 0, 0, 27);
        x.drop(2);
        return x;
    }

    static GlenGames withFullTape() {
        GlenGames x = standing();
        type(x, " ,1,2,3,4                         ");
        return x;
    }

    static void type(GlenGames x, String text) {
        for (int i = 0; i < text.length(); i++) {
            x.type(text.charAt(i), 1);
        }
    }

    static void row(GlenGames x, int sheet, int lane, int... items) {
        x.sheet(sheet, lane, items.length);
        for (int i = 0; i < items.length; i++) {
            x.item(sheet, lane, i, items[i]);
        }
    }

    static void dance(GlenGames x, int event, int man, int... placed) {
        for (int judge = 0; judge < placed.length; judge++) {
            x.entry(event, man, judge, placed[judge]);
        }
    }

    static int now(GlenGames x) {
        return x.told(0, 8);
    }
}
