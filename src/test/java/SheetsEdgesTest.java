/** Promises 14 and 26 to 28: each sentence that names a boundary case has a test of its own here. */
public final class SheetsEdgesTest {
    private static final int BAD = -1, NOT = -2, FULL = -3, NULL = -11, CAST = -12, INDEX = -13, SIZE = -14;
    private static final int THROW = 0, RACE = 1, DANCE = 2;
    private static final int BYTES = 0, SHORTS = 1, INTS = 2;
    private static final int LEAST = Integer.MIN_VALUE, MOST = Integer.MAX_VALUE;
    private static final int[] NO_SHEETS = {-1, 4, LEAST, MOST};
    private static final int[] NO_LANES = {-1, 3, LEAST, MOST};
    private static final int STANDING = Games.STANDING;

    public static void main(String[] args) {
        sheetArguments();
        sheetItems();
        sheetSize();
        sheetItemsAreZero();
        sheetForAnOldOne();
        dropArguments();
        dropNothing();
        dropHowMany();
        itemArguments();
        itemNothing();
        itemCast();
        itemIndex();
        itemBytes();
        itemShorts();
        itemInts();
        entriesArguments();
        entriesHowMany();
        entriesNothing();
        entriesCast();
        entriesIndex();
        entriesIndexOfNone();
        entriesNotAsTold();
        entriesAllOrNone();
        entriesRows();
        entriesYards();
        entriesFull();
        entriesFullToTheLast();
        entriesFirstRefusal();
        Due.end();
    }

    private static int[] of(int... numbers) {
        return numbers;
    }

    /** What entries() answers for one entry of an event that is laid from a row of ints. */
    private static int laidFrom(int event, int... items) {
        GlenGames x = Games.three();
        x.enter(event, 4, false);
        Games.row(x, 0, INTS, items);
        return x.entries(event, 0, INTS, 0, 1);
    }

    /** The time that a race's entry has from an item, or the refusal. */
    private static int timeOf(int lane, int item) {
        GlenGames x = Games.three();
        Games.row(x, 0, lane, 0, item);
        int answer = x.entries(RACE, 0, lane, 0, 1);
        return answer < 0 ? answer : x.mark(RACE, 0, 1, 0);
    }

    /** Whether a throw's entry takes an item for the wind. */
    private static int asWind(int lane, int item) {
        GlenGames x = Games.three();
        Games.row(x, 0, lane, 0, 100, item);
        return x.entries(THROW, 0, lane, 0, 1);
    }

    /** A row of 60 bytes, all 0: twenty entries of a throw, of man 0 and way 0. */
    private static GlenGames longRow() {
        GlenGames x = Games.three();
        x.sheet(0, BYTES, 60);
        return x;
    }

    // ---- promise 26: sheet

    private static void sheetArguments() {
        for (int sheet : NO_SHEETS) {
            Refused.is("sheet " + sheet, x -> x.sheet(sheet, 0, 1), BAD);
            Refused.is("sheet " + sheet + " of -1 items: BAD comes first", x -> x.sheet(sheet, 0, -1), BAD);
        }
        for (int lane : NO_LANES) {
            Refused.is("sheet of lane " + lane, x -> x.sheet(0, lane, 1), BAD);
            Refused.is("sheet of lane " + lane + " of -1 items: BAD comes first", x -> x.sheet(0, lane, -1), BAD);
        }
        for (int sheet : of(0, 3)) {
            for (int lane : of(0, 2)) {
                GlenGames x = Games.bare();
                Due.is("sheet " + sheet + " of lane " + lane, x.sheet(sheet, lane, 1), 1);
                Due.is("it holds it", x.item(sheet, lane, 0, 5), 1);
                Due.is("another one holds nothing", x.drop(3 - sheet), NULL);
            }
        }
    }

    private static void sheetItems() {
        Refused.is("61 items", x -> x.sheet(0, 0, 61), BAD);
        Refused.is("61 items for a sheet that holds nothing", x -> x.sheet(2, 0, 61), BAD);
        Refused.is("most items", x -> x.sheet(0, 2, MOST), BAD);
        for (int lane = 0; lane < 3; lane++) {
            GlenGames x = Games.bare();
            Due.is("60 items", x.sheet(0, lane, 60), 60);
            Due.is("the 60th", x.item(0, lane, 59, 1), 1);
            Due.is("the 61st", x.item(0, lane, 60, 1), INDEX);
            Due.is("0 items", x.sheet(0, lane, 0), 0);
            Due.is("the first of none", x.item(0, lane, 0, 1), INDEX);
        }
    }

    private static void sheetSize() {
        Refused.is("-1 items", x -> x.sheet(0, 0, -1), SIZE);
        Refused.is("-1 items for a sheet that holds nothing", x -> x.sheet(2, 0, -1), SIZE);
        Refused.is("least items", x -> x.sheet(3, 2, LEAST), SIZE);
    }

    private static void sheetItemsAreZero() {
        for (int lane = 0; lane < 3; lane++) {
            GlenGames x = Games.three();
            x.sheet(0, lane, 60);
            Due.is("twenty tries of man 0, way 0, wind 0", x.entries(THROW, 0, lane, 0, 20), 20);
            Due.is("way 0", x.mark(THROW, 0, 20, 5), 0);
            Due.is("nobody else has one", x.told(THROW, 6), 1);
            Due.is("time 0 is none", x.entries(RACE, 0, lane, 0, 1), NOT);
        }
    }

    private static void sheetForAnOldOne() {
        GlenGames x = Games.three();
        Games.row(x, 0, INTS, 7, 500);
        x.sheet(0, INTS, 2);
        Due.is("a new row has nothing of the old one", x.entries(RACE, 0, INTS, 0, 1), NOT);
        x.sheet(0, BYTES, 2);
        Due.is("a new row of another lane", x.item(0, INTS, 0, 1), CAST);
        Due.is("a new row of another lane", x.item(0, BYTES, 0, 1), 1);
        x.sheet(0, BYTES, 1);
        Due.is("a new row is shorter", x.item(0, BYTES, 1, 1), INDEX);
    }

    // ---- promise 27: drop

    private static void dropArguments() {
        for (int sheet : NO_SHEETS) {
            Refused.is("drop " + sheet, x -> x.drop(sheet), BAD);
        }
        Due.is("drop 0", Games.standing().drop(0), 7);
        Due.is("drop 3", Games.standing().drop(3), 6);
    }

    private static void dropNothing() {
        Refused.is("drop one that holds nothing", x -> x.drop(2), NULL);
        for (int sheet = 0; sheet < 4; sheet++) {
            Due.is("drop " + sheet + " of a new object", Games.bare().drop(sheet), NULL);
        }
        GlenGames x = Games.standing();
        x.drop(1);
        Due.is("drop again", x.drop(1), NULL);
        Due.is("another one holds its row still", x.drop(0), 7);
    }

    private static void dropHowMany() {
        for (int n : of(0, 1, 60)) {
            GlenGames x = Games.bare();
            x.sheet(1, SHORTS, n);
            Due.is("it had " + n, x.drop(1), n);
            Due.is("an item of it", x.item(1, SHORTS, 0, 1), NULL);
        }
    }

    // ---- promise 28: item

    private static void itemArguments() {
        for (int sheet : NO_SHEETS) {
            Refused.is("item of sheet " + sheet, x -> x.item(sheet, 0, 0, 1), BAD);
        }
        for (int lane : NO_LANES) {
            Refused.is("item of lane " + lane, x -> x.item(0, lane, 0, 1), BAD);
            Refused.is("item of lane " + lane + " of nothing: BAD comes first", x -> x.item(2, lane, 0, 1), BAD);
        }
        Due.is("sheet 0, lane 0", Games.standing().item(0, 0, 0, 1), 1);
        Due.is("sheet 3, lane 2", Games.standing().item(3, 2, 0, 1), 1);
    }

    private static void itemNothing() {
        Refused.is("item of nothing", x -> x.item(2, 0, 0, 1), NULL);
        Refused.is("item 60 of nothing: NULL comes ahead of INDEX", x -> x.item(2, 0, 60, 1), NULL);
    }

    private static void itemCast() {
        Refused.is("bytes as shorts", x -> x.item(0, 1, 0, 1), CAST);
        Refused.is("bytes as ints", x -> x.item(0, 2, 0, 1), CAST);
        Refused.is("shorts as bytes", x -> x.item(1, 0, 0, 1), CAST);
        Refused.is("shorts as ints", x -> x.item(1, 2, 0, 1), CAST);
        Refused.is("ints as bytes", x -> x.item(3, 0, 0, 1), CAST);
        Refused.is("ints as shorts", x -> x.item(3, 1, 0, 1), CAST);
        Refused.is("item -1 of another lane: CAST comes ahead of INDEX", x -> x.item(0, 1, -1, 1), CAST);
    }

    private static void itemIndex() {
        for (int i : of(-1, 7, 59, 60, LEAST, MOST)) {
            Refused.is("item " + i + " of seven", x -> x.item(0, 0, i, 1), INDEX);
        }
        Due.is("item 0 of seven", Games.standing().item(0, 0, 0, 1), 1);
        Due.is("item 6 of seven", Games.standing().item(0, 0, 6, 1), 1);
        GlenGames x = Games.three();
        Games.row(x, 0, INTS, 0, 100, 1, 200);
        x.item(0, INTS, 3, 201);
        x.entries(RACE, 0, INTS, 0, 2);
        Due.is("the item alone becomes so", x.mark(RACE, 1, 2, 0), 201);
        Due.is("no other one", x.mark(RACE, 0, 2, 0), 100);
    }

    private static void itemBytes() {
        Due.is("127", timeOf(BYTES, 127), 127);
        Due.is("128 is -128", timeOf(BYTES, 128), NOT);
        Due.is("-129 is 127", timeOf(BYTES, -129), 127);
        Due.is("255 is -1", timeOf(BYTES, 255), NOT);
        Due.is("256 is 0", timeOf(BYTES, 256), NOT);
        Due.is("257 is 1", timeOf(BYTES, 257), 1);
        Due.is("least is 0", timeOf(BYTES, LEAST), NOT);
        Due.is("least and 1 is 1", timeOf(BYTES, LEAST + 1), 1);
        Due.is("236 is -20", asWind(BYTES, 236), 1);
        Due.is("235 is -21", asWind(BYTES, 235), NOT);
        Due.is("276 is 20", asWind(BYTES, 276), 1);
        Due.is("277 is 21", asWind(BYTES, 277), NOT);
    }

    private static void itemShorts() {
        Due.is("9999", timeOf(SHORTS, 9999), 9999);
        Due.is("10000", timeOf(SHORTS, 10000), NOT);
        Due.is("255", timeOf(SHORTS, 255), 255);
        Due.is("256", timeOf(SHORTS, 256), 256);
        Due.is("65536 is 0", timeOf(SHORTS, 65536), NOT);
        Due.is("65537 is 1", timeOf(SHORTS, 65537), 1);
        Due.is("-65535 is 1", timeOf(SHORTS, -65535), 1);
        Due.is("32768 is -32768", timeOf(SHORTS, 32768), NOT);
        Due.is("65516 is -20", asWind(SHORTS, 65516), 1);
        Due.is("65515 is -21", asWind(SHORTS, 65515), NOT);
    }

    private static void itemInts() {
        Due.is("9999", timeOf(INTS, 9999), 9999);
        Due.is("65536 and 9999 is not cut", timeOf(INTS, 65536 + 9999), NOT);
        Due.is("257", timeOf(INTS, 257), 257);
        Due.is("least", timeOf(INTS, LEAST), NOT);
        Due.is("least and 1", timeOf(INTS, LEAST + 1), NOT);
        Due.is("most", timeOf(INTS, MOST), NOT);
        Due.is("-20", asWind(INTS, -20), 1);
        Due.is("65516 is not cut", asWind(INTS, 65516), NOT);
    }

    // ---- promise 14: entries

    private static void entriesArguments() {
        for (int event : Games.NO_EVENTS) {
            Refused.is("entries of event " + event, x -> x.entries(event, 0, 0, 0, 1), BAD);
        }
        for (int sheet : NO_SHEETS) {
            Refused.is("entries of sheet " + sheet, x -> x.entries(1, sheet, 0, 0, 1), BAD);
        }
        for (int lane : NO_LANES) {
            Refused.is("entries of lane " + lane, x -> x.entries(1, 0, lane, 0, 1), BAD);
        }
        Due.is("sheet 0, lane 0", Games.standing().entries(1, 0, 0, 0, 1), STANDING + 1);
        Due.is("sheet 3, lane 2", Games.standing().entries(1, 3, 2, 0, 1), STANDING + 1);
        GlenGames x = Games.withEightEvents();
        x.enter(7, 1, true);
        Due.is("event 7 of eight", x.entries(7, 0, 0, 0, 1), STANDING + 1);
        Due.is("event 8 of eight", x.entries(8, 0, 0, 0, 1), BAD);
    }

    private static void entriesHowMany() {
        for (int n : of(-1, 31, LEAST, MOST)) {
            Refused.is(n + " entries", x -> x.entries(1, 0, 0, 0, n), BAD);
        }
        Due.is("0", Games.standing().entries(1, 0, 0, 0, 0), STANDING);
        GlenGames x = Games.three();
        x.sheet(0, BYTES, 60);
        for (int i = 0; i < 30; i++) {
            x.item(0, BYTES, 2 * i + 1, 1 + i);
        }
        Due.is("30 of a race", x.entries(RACE, 0, BYTES, 0, 30), 30);
        Due.is("the thirtieth", x.mark(RACE, 0, 30, 0), 30);
        Due.is("31", x.entries(RACE, 0, BYTES, 0, 31), BAD);
    }

    private static void entriesNothing() {
        Refused.is("entries of nothing", x -> x.entries(1, 2, 0, 0, 1), NULL);
        Refused.is("no entries of nothing", x -> x.entries(1, 2, 0, 0, 0), NULL);
        Refused.is("31 entries of nothing: BAD comes first", x -> x.entries(1, 2, 0, 0, 31), BAD);
        Refused.is("from -1 on of nothing: NULL comes ahead of INDEX", x -> x.entries(1, 2, 0, -1, 1), NULL);
    }

    private static void entriesCast() {
        Refused.is("bytes as shorts", x -> x.entries(1, 0, 1, 0, 1), CAST);
        Refused.is("bytes as ints", x -> x.entries(1, 0, 2, 0, 1), CAST);
        Refused.is("shorts as bytes", x -> x.entries(1, 1, 0, 0, 1), CAST);
        Refused.is("ints as shorts", x -> x.entries(1, 3, 1, 0, 1), CAST);
        Refused.is("none of another lane", x -> x.entries(1, 0, 1, 0, 0), CAST);
        Refused.is("from -1 on of another lane: CAST comes ahead of INDEX", x -> x.entries(1, 0, 1, -1, 1), CAST);
    }

    private static void entriesIndex() {
        for (int i : of(-1, 7, 8, 60, LEAST, MOST, MOST - 1)) {
            Refused.is("from item " + i + " of seven on", x -> x.entries(1, 0, 0, i, 1), INDEX);
        }
        Refused.is("up to the eighth of seven, a race", x -> x.entries(1, 0, 0, 6, 1), INDEX);
        Refused.is("up to the eighth of seven, four of a race", x -> x.entries(1, 0, 0, 0, 4), INDEX);
        Refused.is("up to the eighth of seven, a throw", x -> x.entries(0, 0, 0, 5, 1), INDEX);
        Refused.is("up to the eighth of seven, a dance", x -> x.entries(2, 0, 0, 5, 1), INDEX);
        Refused.is("up to the eighth of seven, two of a throw", x -> x.entries(0, 0, 0, 2, 2), INDEX);
        Refused.is("30 from the last int on", x -> x.entries(0, 0, 0, MOST, 30), INDEX);
        Due.is("up to the sixth, a race", Games.standing().entries(1, 0, 0, 0, 3), STANDING + 3);
        GlenGames x = longRow();
        Due.is("up to the 60th, a throw", x.entries(THROW, 0, BYTES, 57, 1), 1);
        Due.is("up to the 60th, twenty throws", x.entries(THROW, 0, BYTES, 0, 20), 21);
        Due.is("up to the 61st, a throw", x.entries(THROW, 0, BYTES, 58, 1), INDEX);
        Due.is("up to the 63rd, 21 throws", x.entries(THROW, 0, BYTES, 0, 21), INDEX);
        Due.is("up to the 61st, twenty throws", x.entries(THROW, 0, BYTES, 1, 20), INDEX);
    }

    private static void entriesIndexOfNone() {
        Due.is("none from item 7 of seven on", Games.standing().entries(1, 0, 0, 7, 0), STANDING);
        Refused.is("none from item 8 of seven on", x -> x.entries(1, 0, 0, 8, 0), INDEX);
        Refused.is("none from item -1 on", x -> x.entries(1, 0, 0, -1, 0), INDEX);
        GlenGames x = Games.three();
        x.sheet(0, BYTES, 0);
        Due.is("none of a row of none", x.entries(THROW, 0, BYTES, 0, 0), 0);
        Due.is("one of a row of none", x.entries(THROW, 0, BYTES, 0, 1), INDEX);
        Due.is("none from item 1 on of a row of none", x.entries(THROW, 0, BYTES, 1, 0), INDEX);
    }

    private static void entriesNotAsTold() {
        int[][] ofThrow = {{-1, 0, 0}, {10, 0, 0}, {4, 0, 0}, {0, -2, 0}, {0, 10000, 0}, {0, 0, -21}, {0, 0, 21}};
        for (int[] row : ofThrow) {
            Due.is("a throw of " + row[0] + ", " + row[1] + ", " + row[2], laidFrom(THROW, row), NOT);
        }
        int[][] ofRace = {{-1, 5}, {10, 5}, {4, 5}, {0, 0}, {0, -1}, {0, 10000}};
        for (int[] row : ofRace) {
            Due.is("a race of " + row[0] + ", " + row[1], laidFrom(RACE, row), NOT);
        }
        int[][] ofDance = {{-1, 0, 1}, {10, 0, 1}, {4, 0, 1}, {0, -1, 1}, {0, 3, 1}, {0, 0, 0}, {0, 0, 10}};
        for (int[] row : ofDance) {
            Due.is("a dance of " + row[0] + ", " + row[1] + ", " + row[2], laidFrom(DANCE, row), NOT);
        }
        int[][] right = {{THROW, 9, -1, -20}, {THROW, 0, 9999, 20}, {THROW, 0, 0, 0}, {RACE, 9, 1, 77},
            {RACE, 0, 9999, -5}, {DANCE, 9, 2, 9}, {DANCE, 0, 0, 1}};
        for (int[] row : right) {
            Due.is("as told: " + row[1] + ", " + row[2] + ", " + row[3], laidFrom(row[0], row[1], row[2], row[3]), 1);
        }
    }

    private static void entriesAllOrNone() {
        Refused.is("the first is not as told", x -> x.entries(3, 0, 0, 0, 3), NOT);
        Refused.is("the second is not as told", x -> secondIsWrong(x), NOT);
        GlenGames x = Games.three();
        Games.row(x, 0, INTS, 0, 10, 1, 20, 2, 0);
        Due.is("the last of three is not as told", x.entries(RACE, 0, INTS, 0, 3), NOT);
        Due.is("none of them is laid", x.told(0, 8), 0);
        Due.is("the two ahead of it", x.entries(RACE, 0, INTS, 0, 2), 2);
    }

    /** The throw takes man 1, way 50, wind 2, and then man 60. */
    private static int secondIsWrong(GlenGames x) {
        return x.entries(0, 0, 0, 0, 2);
    }

    private static void entriesRows() {
        GlenGames x = Games.three();
        Games.row(x, 0, INTS, 3, 1000, -20, 9, 2000, 20);
        Due.is("a throw: man, way, wind", x.entries(THROW, 0, INTS, 0, 2), 2);
        Due.is("man 3", x.mark(THROW, 3, 2, 0), 1040);
        Due.is("man 9", x.mark(THROW, 9, 2, 0), 1920);
        Due.is("one behind the other", x.mark(THROW, 9, 1, 0), NOT);
        Games.row(x, 1, SHORTS, 99, 3, 1000, 9, 2000);
        Due.is("a race: man, time", x.entries(RACE, 1, SHORTS, 1, 2), 4);
        Due.is("man 3", x.mark(RACE, 3, 4, 0), 1000);
        Due.is("man 9", x.mark(RACE, 9, 4, 0), 2000);
        Games.row(x, 2, BYTES, 3, 0, 4, 3, 1, 5, 3, 2, 9);
        Due.is("a dance: man, judge, place", x.entries(DANCE, 2, BYTES, 0, 3), 7);
        Due.is("4, 5, 9", x.mark(DANCE, 3, 7, 0), 518);
        Due.is("told as any entry", x.told(0, 8), 7);
    }

    private static void entriesYards() {
        GlenGames x = Games.three();
        x.way(RACE, 100);
        x.yards(0, 50);
        Games.row(x, 0, INTS, 0, 100, 1, 100);
        x.entries(RACE, 0, INTS, 0, 2);
        x.yards(0, 0);
        Due.is("his yards at the entry", x.mark(RACE, 0, 2, 0), 200);
        Due.is("another man's", x.mark(RACE, 1, 2, 0), 100);
    }

    private static void entriesFull() {
        Refused.is("one more than 160", Games::withAllEntries, x -> x.entries(1, 0, 0, 0, 1), FULL);
        Refused.is("three more than 160", Games::withAllEntries, x -> x.entries(1, 0, 0, 0, 3), FULL);
        Due.is("none more than 160", Games.withAllEntries().entries(1, 0, 0, 0, 0), 160);
    }

    private static void entriesFullToTheLast() {
        GlenGames x = longRow();
        for (int n = 20; n <= 140; n += 20) {
            Due.is("twenty more", x.entries(THROW, 0, BYTES, 0, 20), n);
        }
        x.entry(THROW, 0, 5, 0);
        Due.is("twenty, and there is room for 19", x.entries(THROW, 0, BYTES, 0, 20), FULL);
        Due.is("none of them is laid", x.told(0, 8), 141);
        Due.is("the last is as it was", x.mark(THROW, 0, 141, 0), 5);
        Due.is("19", x.entries(THROW, 0, BYTES, 0, 19), 160);
        Due.is("one more", x.entries(THROW, 0, BYTES, 0, 1), FULL);
        Due.is("none", x.entries(THROW, 0, BYTES, 0, 0), 160);
    }

    private static void entriesFirstRefusal() {
        Refused.is("NOT comes ahead of FULL", Games::withAllEntries, x -> x.entries(3, 0, 0, 0, 1), NOT);
        Refused.is("INDEX comes ahead of NOT", Games::withAllEntries, x -> x.entries(3, 0, 0, 0, 4), INDEX);
        Refused.is("CAST comes ahead of INDEX", Games::withAllEntries, x -> x.entries(3, 0, 1, 0, 4), CAST);
        Refused.is("NULL comes ahead of CAST", Games::withAllEntries, x -> x.entries(3, 2, 1, 0, 4), NULL);
        Refused.is("BAD comes ahead of NULL", Games::withAllEntries, x -> x.entries(5, 2, 1, 0, 4), BAD);
    }
}
