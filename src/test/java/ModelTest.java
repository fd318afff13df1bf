import java.util.Random;

/** All promises: made-up runs of calls, each answer held against the Model's. */
public final class ModelTest {
    private static final int RUNS = 600;
    private static final int CALLS = 512;
    private static final String SIGNS = "0123456789,, 15";

    private final Random random;
    private final GlenGames x = new GlenGames();
    private final Model m = new Model();
    /** Wrong numbers come once in so many. */
    private final int wrongness;
    private int calls;

    private ModelTest(int seed) {
        random = new Random(seed);
        wrongness = 5 + random.nextInt(60);
    }

    public static void main(String[] args) {
        for (int seed = 0; seed < RUNS && Due.howManyWrong() == 0; seed++) {
            new ModelTest(seed).run(seed);
        }
        Due.end();
    }

    /** The last step may go on past the last call that is promised; its answers from there on are not held. */
    private void run(int seed) {
        int events = 3 + random.nextInt(6);
        for (int i = 0; i < events; i++) {
            int kind = random.nextInt(3);
            int parts = random.nextBoolean() ? 1 << random.nextInt(4) : 1 + random.nextInt(15);
            int spells = 1 + random.nextInt(12);
            same(seed, "event", x.event(kind, parts, spells), m.event(kind, parts, spells));
        }
        for (int i = 0; i < 30; i++) {
            enter(seed);
        }
        while (calls < CALLS) {
            step(seed);
        }
    }

    private void same(int seed, String call, int got, int due) {
        calls++;
        if (calls <= CALLS) {
            Due.is("run " + seed + ": " + call, got, due);
        }
    }

    private int number(int least, int most) {
        if (random.nextInt(wrongness) == 0) {
            int[] wrong = {least - 1, most + 1, Integer.MIN_VALUE, Integer.MAX_VALUE, -1, 0};
            return wrong[random.nextInt(wrong.length)];
        }
        return least + random.nextInt(most - least + 1);
    }

    private int anEvent() {
        return number(0, Math.max(0, m.told(0, 7) - 1));
    }

    private int ofKind(int kind) {
        for (int tries = 0; tries < 12; tries++) {
            int event = anEvent();
            if (random.nextInt(20) == 0 || m.told(event, 0) == kind) {
                return event;
            }
        }
        return anEvent();
    }

    private int asOf() {
        return random.nextBoolean() ? m.told(0, 8) : number(0, m.told(0, 8));
    }

    private void enter(int seed) {
        int event = anEvent();
        int man = number(0, 9);
        boolean is = random.nextInt(4) != 0;
        same(seed, "enter " + event + " " + man + " " + is, x.enter(event, man, is), m.enter(event, man, is));
    }

    private void step(int seed) {
        int which = random.nextInt(20);
        if (which < 8) {
            results(seed, random.nextInt(8));
        } else if (which < 12) {
            entry(seed);
        } else if (which < 15) {
            sheets(seed, random.nextInt(6));
        } else if (which < 18) {
            theDay(seed, random.nextInt(8));
        } else {
            settings(seed, random.nextInt(9));
        }
    }

    private void entry(int seed) {
        int event = anEvent();
        int man = number(0, 9);
        int kind = m.told(event, 0);
        int a = kind == 0 ? number(-1, random.nextBoolean() ? 3 : 9999) : kind == 1 ? number(1, 40) : number(0, 2);
        int b = kind == 0 ? number(-20, 20) : kind == 1 ? 0 : number(1, 9);
        String name = "entry " + event + " " + man + " " + a + " " + b;
        same(seed, name, x.entry(event, man, a, b), m.entry(event, man, a, b));
    }

    private void results(int seed, int which) {
        int event = which == 3 ? ofKind(2) : which == 7 ? ofKind(1) : anEvent();
        int man = number(0, 9);
        int n = asOf();
        int k = m.told(event, 0) == 0 ? number(0, 5) : number(0, 0);
        String name = which + " of " + event + ", man " + man + ", as of " + n + ", " + k;
        switch (which) {
            case 0: same(seed, "mark " + name, x.mark(event, man, n, k), m.mark(event, man, n, k)); break;
            case 1: same(seed, "place " + name, x.place(event, man, n), m.place(event, man, n)); break;
            case 2: same(seed, "told 6 " + name, x.told(event, 6), m.told(event, 6)); break;
            case 3: same(seed, "paradox " + name, x.paradox(event, n), m.paradox(event, n)); break;
            case 4: same(seed, "settled " + name, x.settled(event), m.settled(event)); break;
            case 5: same(seed, "won " + name, x.won(event, man), m.won(event, man)); break;
            case 6: same(seed, "all " + name, x.all(man), m.all(man)); break;
            default: same(seed, "move " + name, x.move(event, n), m.move(event, n)); break;
        }
    }

    private void sheets(int seed, int which) {
        int sheet = number(0, 3);
        int lane = number(0, 2);
        int i = number(0, 12);
        int n = number(0, 4);
        int event = anEvent();
        int v = random.nextInt(12) == 0 ? random.nextInt() : number(0, 3);
        String name = sheet + " " + lane + " " + i + " " + n + " " + v + " of " + event;
        switch (which) {
            case 0: {
                int size = number(0, 60);
                same(seed, "sheet " + name, x.sheet(sheet, lane, size), m.sheet(sheet, lane, size));
                break;
            }
            case 1:
                if (random.nextInt(4) == 0) {
                    same(seed, "drop " + name, x.drop(sheet), m.drop(sheet));
                }
                break;
            case 2:
                same(seed, "entries " + name, x.entries(event, sheet, lane, i, n), m.entries(event, sheet, lane, i, n));
                break;
            case 3:
                for (int man = 0; man < 6; man++) {
                    same(seed, "item " + name, x.item(sheet, lane, i + man, v), m.item(sheet, lane, i + man, v));
                }
                break;
            default:
                same(seed, "item " + name, x.item(sheet, lane, i, v), m.item(sheet, lane, i, v));
        }
    }

    private void theDay(int seed, int which) {
        int event = anEvent();
        int man = number(0, 9);
        int i = number(-1, 5);
        switch (which) {
            case 0: enter(seed); break;
            case 1: {
                int spells = random.nextBoolean() ? 60 : number(1, 60);
                int rest = number(0, 6);
                same(seed, "day", x.day(spells, rest), m.day(spells, rest));
                break;
            }
            case 2:
                if (random.nextInt(3) == 0) {
                    int other = anEvent();
                    same(seed, "call", x.call(event, other), m.call(event, other));
                }
                break;
            case 3: lay(seed); break;
            case 4: same(seed, "begins " + event, x.begins(event), m.begins(event)); break;
            case 5: same(seed, "order " + i, x.order(i), m.order(i)); break;
            default: same(seed, "idle " + man, x.idle(man), m.idle(man)); break;
        }
    }

    private void lay(int seed) {
        int bits = number(1, (1 << m.told(0, 7)) - 1);
        same(seed, "lay " + bits, x.lay(bits), m.lay(bits));
        for (int e = 0; e < 8; e++) {
            same(seed, "begins " + e + " behind lay " + bits, x.begins(e), m.begins(e));
            same(seed, "order " + e + " behind lay " + bits, x.order(e), m.order(e));
        }
    }

    private void settings(int seed, int which) {
        int event = anEvent();
        int man = number(0, 9);
        boolean is = random.nextInt(4) == 0;
        switch (which) {
            case 0: {
                int throwing = ofKind(0);
                int grams = number(1000, 30000);
                int slope = number(-100, 100);
                same(seed, "stone", x.stone(throwing, grams, slope), m.stone(throwing, grams, slope));
                break;
            }
            case 1: {
                int race = ofKind(1);
                int way = number(100, 2000);
                same(seed, "way", x.way(race, way), m.way(race, way));
                break;
            }
            case 2: {
                int yards = number(-50, 50);
                same(seed, "yards", x.yards(man, yards), m.yards(man, yards));
                break;
            }
            case 3: same(seed, "fail", x.fail(event, is), m.fail(event, is)); break;
            case 4: {
                int pence = number(0, random.nextBoolean() ? 20 : 100000);
                same(seed, "purse", x.purse(event, pence), m.purse(event, pence));
                break;
            }
            case 5: case 6: text(seed); break;
            default: {
                int what = number(0, 8);
                same(seed, "told " + event + " " + what, x.told(event, what), m.told(event, what));
            }
        }
    }

    private void text(int seed) {
        int pieces = 1 + random.nextInt(3);
        for (int p = 0; p < pieces; p++) {
            int n = number(1, 8);
            long w = random.nextInt(wrongness) == 0 ? random.nextLong() : 0;
            for (int i = 0; i < 8; i++) {
                w = w << 8 | SIGNS.charAt(random.nextInt(SIGNS.length()));
            }
            same(seed, "type " + w + " " + n, x.type(w, n), m.type(w, n));
        }
        if (random.nextInt(8) != 0) {
            same(seed, "shares", x.shares(), m.shares());
        }
    }
}
