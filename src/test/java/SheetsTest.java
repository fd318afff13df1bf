/** Promises 14 and 26 to 28: sheets, their items, and rows of entries laid from them. */
public final class SheetsTest {
    public static void main(String[] args) {
        sheets();
        drops();
        items();
        lowestBits();
        newRowsAreEmpty();
        rowsOfThrow();
        rowsOfRace();
        rowsOfDance();
        entriesRefusals();
        entriesIndex();
        entriesOrderOfRefusals();
        entriesFull();
        Due.end();
    }

    /** Event 0 a throw, 1 a race, 2 a dance, with men 0 and 1 in all of them. */
    private static GlenGames three() {
        GlenGames x = new GlenGames();
        for (int kind = 0; kind < 3; kind++) {
            x.event(kind, 1, 1);
            x.enter(kind, 0, true);
            x.enter(kind, 1, true);
        }
        return x;
    }

    private static void fill(GlenGames x, int sheet, int lane, int... items) {
        Due.is("sheet", x.sheet(sheet, lane, items.length), items.length);
        for (int i = 0; i < items.length; i++) {
            Due.is("item", x.item(sheet, lane, i, items[i]), 1);
        }
    }

    private static void sheets() {
        GlenGames x = new GlenGames();
        int[][] bad = {{-1, 0, 1}, {4, 0, 1}, {0, -1, 1}, {0, 3, 1}, {0, 0, 61}, {0, 0, Integer.MAX_VALUE},
            {4, 0, -1}, {0, 3, -1}};
        for (int[] b : bad) {
            Due.is("sheet(" + b[0] + ", " + b[1] + ", " + b[2] + ")", x.sheet(b[0], b[1], b[2]), -1);
        }
        Due.is("n -1", x.sheet(0, 0, -1), -14);
        Due.is("n least", x.sheet(0, 2, Integer.MIN_VALUE), -14);
        Due.is("it holds nothing still", x.drop(0), -11);
        for (int sheet = 0; sheet < 4; sheet++) {
            Due.is("60", x.sheet(sheet, sheet % 3, 60), 60);
            Due.is("0", x.sheet(sheet, sheet % 3, 0), 0);
        }
        Due.is("a row of 0 items is a row", x.drop(0), 0);
    }

    private static void drops() {
        GlenGames x = new GlenGames();
        Due.is("no sheet", x.drop(-1), -1);
        Due.is("no sheet", x.drop(4), -1);
        Due.is("nothing", x.drop(3), -11);
        x.sheet(3, 1, 17);
        Due.is("another sheet", x.drop(2), -11);
        Due.is("17", x.drop(3), 17);
        Due.is("nothing any more", x.drop(3), -11);
        x.sheet(3, 1, 17);
        Due.is("a refused row leaves the old one", x.sheet(3, 0, -1), -14);
        Due.is("17 of lane 1", x.item(3, 1, 16, 5), 1);
        x.sheet(3, 2, 4);
        Due.is("a new one for an old one", x.drop(3), 4);
    }

    private static void items() {
        GlenGames x = new GlenGames();
        Due.is("no sheet", x.item(4, 0, 0, 0), -1);
        Due.is("no sheet", x.item(-1, 0, 0, 0), -1);
        Due.is("no lane, ahead of null", x.item(0, 3, 0, 0), -1);
        Due.is("no lane", x.item(0, -1, 0, 0), -1);
        Due.is("nothing", x.item(0, 0, 99, 0), -11);
        x.sheet(0, 1, 3);
        Due.is("cast ahead of index", x.item(0, 0, 99, 0), -12);
        Due.is("cast", x.item(0, 2, 0, 0), -12);
        int[] wrong = {-1, 3, Integer.MIN_VALUE, Integer.MAX_VALUE};
        for (int i : wrong) {
            Due.is("item " + i, x.item(0, 1, i, 0), -13);
        }
        for (int i = 0; i < 3; i++) {
            Due.is("item " + i, x.item(0, 1, i, 7), 1);
        }
        x.sheet(1, 2, 0);
        Due.is("a row of none", x.item(1, 2, 0, 0), -13);
    }

    /** What an item became is seen by the entry that is laid from it. */
    private static void lowestBits() {
        GlenGames x = three();
        fill(x, 0, 0, 256, 127 + 512);
        Due.is("bytes", x.entries(1, 0, 0, 0, 1), 1);
        Due.is("bytes", x.mark(1, 0, 1, 0), 127);
        fill(x, 0, 0, 0, 128);
        Due.is("a byte below 0", x.entries(1, 0, 0, 0, 1), -2);
        fill(x, 1, 1, 65536, 9999 + 65536 * 7);
        Due.is("shorts", x.entries(1, 1, 1, 0, 1), 2);
        Due.is("shorts", x.mark(1, 0, 2, 0), 9999);
        fill(x, 1, 1, 0, 32768);
        Due.is("a short below 0", x.entries(1, 1, 1, 0, 1), -2);
        fill(x, 2, 2, 1, 9998);
        Due.is("ints", x.entries(1, 2, 2, 0, 1), 3);
        Due.is("ints", x.mark(1, 1, 3, 0), 9998);
        fill(x, 2, 2, 65536, 5);
        Due.is("an int is not cut", x.entries(1, 2, 2, 0, 1), -2);
        fill(x, 3, 0, 0, 255, 236);
        Due.is("bytes -1 and -20: a fault", x.entries(0, 3, 0, 0, 1), 4);
        Due.is("a fault", x.mark(0, 0, 4, 0), -1);
    }

    private static void newRowsAreEmpty() {
        GlenGames x = three();
        fill(x, 0, 2, 1, 500);
        x.sheet(0, 2, 2);
        Due.is("a new row is of 0: time 0", x.entries(1, 0, 2, 0, 1), -2);
        fill(x, 0, 2, 1, 500, 1);
        x.drop(0);
        x.sheet(0, 2, 3);
        Due.is("man 0, way 0, wind 0", x.entries(0, 0, 2, 0, 1), 1);
        Due.is("man 0, way 0", x.mark(0, 0, 1, 0), 0);
        Due.is("man 1 has none", x.mark(0, 1, 1, 0), -2);
    }

    private static void rowsOfThrow() {
        GlenGames x = three();
        fill(x, 0, 2, 9, 0, 1000, -20, 1, 2000, 20, 1, -1, 0);
        Due.is("three from item 1 on", x.entries(0, 0, 2, 1, 3), 3);
        Due.is("man 0", x.mark(0, 0, 3, 0), 1040);
        Due.is("man 1", x.mark(0, 1, 3, 0), 1920);
        Due.is("man 1, the fault", x.mark(0, 1, 3, 1), -1);
        Due.is("in their order", x.mark(0, 1, 1, 0), -2);
        Due.is("the middle one again", x.entries(0, 0, 2, 4, 1), 4);
        Due.is("twice", x.mark(0, 1, 4, 1), 1920);
    }

    private static void rowsOfRace() {
        GlenGames x = three();
        x.yards(1, 20);
        fill(x, 0, 1, 0, 300, 1, 400, 0, 310);
        Due.is("three", x.entries(1, 0, 1, 0, 3), 3);
        x.yards(1, 0);
        Due.is("the latest", x.mark(1, 0, 3, 0), 310);
        Due.is("the yards at the entry", x.mark(1, 1, 3, 0), 440);
        Due.is("none", x.entries(1, 0, 1, 0, 0), 3);
    }

    private static void rowsOfDance() {
        GlenGames x = three();
        fill(x, 0, 0, 1, 2, 9, 1, 1, 4, 1, 0, 3);
        Due.is("three", x.entries(2, 0, 0, 0, 3), 3);
        Due.is("mark", x.mark(2, 1, 3, 0), 416);
    }

    private static void entriesRefusals() {
        GlenGames x = three();
        Due.is("no event", x.entries(3, 0, 0, 0, 0), -1);
        Due.is("no sheet", x.entries(0, 4, 0, 0, 0), -1);
        Due.is("no sheet", x.entries(0, -1, 0, 0, 0), -1);
        Due.is("no lane", x.entries(0, 0, 3, 0, 0), -1);
        Due.is("no lane", x.entries(0, 0, -1, 0, 0), -1);
        Due.is("n 31", x.entries(0, 0, 0, 0, 31), -1);
        Due.is("n -1", x.entries(0, 0, 0, 0, -1), -1);
        Due.is("nothing, even for none", x.entries(0, 0, 0, 0, 0), -11);
        x.sheet(0, 0, 3);
        Due.is("cast, even for none", x.entries(0, 0, 1, 0, 0), -12);
        int[][] rows = {{2, 5, 0}, {-1, 5, 0}, {10, 5, 0}, {0, 10000, 0}, {0, -2, 0}, {0, 5, 21}, {0, 5, -21}};
        for (int[] row : rows) {
            fill(x, 1, 2, 0, 5, 0, row[0], row[1], row[2]);
            Due.is("the second is not as told", x.entries(0, 1, 2, 0, 2), -2);
            Due.is("so the first is not laid", x.told(0, 8), 0);
        }
        int[][] dances = {{2, 0, 1}, {0, 3, 1}, {0, -1, 1}, {0, 0, 0}, {0, 0, 10}};
        for (int[] row : dances) {
            fill(x, 1, 2, row);
            Due.is("a dance that is not as told", x.entries(2, 1, 2, 0, 1), -2);
        }
        int[][] races = {{2, 5}, {0, 0}, {0, 10000}};
        for (int[] row : races) {
            fill(x, 1, 2, row);
            Due.is("a race that is not as told", x.entries(1, 1, 2, 0, 1), -2);
        }
    }

    private static void entriesIndex() {
        GlenGames x = three();
        x.sheet(0, 2, 7);
        Due.is("i -1", x.entries(0, 0, 2, -1, 1), -13);
        Due.is("i -1 for none", x.entries(0, 0, 2, -1, 0), -13);
        Due.is("i 7 for none", x.entries(0, 0, 2, 7, 0), 0);
        Due.is("i 8 for none", x.entries(0, 0, 2, 8, 0), -13);
        Due.is("i greatest", x.entries(0, 0, 2, Integer.MAX_VALUE, 30), -13);
        Due.is("i least", x.entries(0, 0, 2, Integer.MIN_VALUE, 30), -13);
        Due.is("throws up to item 5", x.entries(0, 0, 2, 0, 2), 2);
        Due.is("throws up to item 6", x.entries(0, 0, 2, 1, 2), 4);
        Due.is("throws up to item 7", x.entries(0, 0, 2, 2, 2), -13);
        Due.is("races up to item 6", x.entries(1, 0, 2, 1, 3), -2);
        Due.is("races up to item 7", x.entries(1, 0, 2, 2, 3), -13);
        x.sheet(1, 0, 0);
        Due.is("none of a row of none", x.entries(0, 1, 0, 0, 0), 4);
        Due.is("one of a row of none", x.entries(0, 1, 0, 0, 1), -13);
    }

    private static void entriesOrderOfRefusals() {
        GlenGames x = three();
        x.sheet(0, 2, 60);
        for (int i = 0; i < 160; i++) {
            x.entry(0, 0, 1, 0);
        }
        Due.is("full", x.entries(0, 0, 2, 0, 1), -3);
        Due.is("none more", x.entries(0, 0, 2, 0, 0), 160);
        Due.is("not ahead of full", x.entries(1, 0, 2, 0, 1), -2);
        Due.is("index ahead of not", x.entries(1, 0, 2, 59, 1), -13);
        Due.is("cast ahead of index", x.entries(1, 0, 1, 59, 1), -12);
        Due.is("null ahead of cast", x.entries(1, 1, 1, 59, 1), -11);
        Due.is("bad ahead of null", x.entries(1, 1, 1, 59, 31), -1);
    }

    private static void entriesFull() {
        GlenGames x = three();
        x.sheet(0, 2, 60);
        for (int n = 20; n <= 140; n += 20) {
            Due.is("20 more", x.entries(0, 0, 2, 0, 20), n);
        }
        x.entry(0, 0, 1, 0);
        Due.is("161", x.entries(0, 0, 2, 0, 20), -3);
        Due.is("none of them", x.told(0, 8), 141);
        Due.is("160", x.entries(0, 0, 2, 0, 19), 160);
        Due.is("full", x.entries(0, 0, 2, 0, 1), -3);
    }
}
