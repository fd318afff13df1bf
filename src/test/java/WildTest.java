import java.util.Arrays;
import java.util.Random;

/**
 * Any numbers in any state: nothing is thrown, and what is refused changes nothing that can be seen. Looking on takes
 * more than 512 calls: what those answer is not promised, and is only held against itself.
 */
public final class WildTest {
    private static final int[] EDGES = {Integer.MIN_VALUE, Integer.MIN_VALUE + 1, -1001, -51, -21, -2, -1, 0, 1, 2, 3,
        4, 5, 7, 8, 9, 10, 15, 16, 30, 31, 40, 41, 59, 60, 61, 63, 99, 100, 127, 128, 159, 160, 161, 220, 255, 256,
        999, 1000, 9999, 10000, 65535, 100000, 100001, Integer.MAX_VALUE - 2, Integer.MAX_VALUE};

    private final Random random;
    private final GlenGames x = new GlenGames();

    private WildTest(int seed) {
        random = new Random(seed);
    }

    public static void main(String[] args) {
        for (int seed = 0; seed < 300; seed++) {
            new WildTest(seed).run(seed);
        }
        Due.end();
    }

    private void run(int seed) {
        if (seed % 3 != 0) {
            prepare();
        }
        for (int i = 0; i < 60; i++) {
            int[] ahead = seen();
            int which = random.nextInt(29);
            String name = "run " + seed + ", call " + which;
            int answer = answer(name, which);
            if (answer < 0 && isRefusal(which, answer)) {
                Due.holds(name + " answered " + answer + " and changed nothing", Arrays.equals(ahead, seen()));
            }
        }
    }

    /** The yards and the marks may be below 0 without a refusal; shares() empties the tape in any case. */
    private static boolean isRefusal(int which, int answer) {
        return which != 11 || answer == -1001;
    }

    private int answer(String name, int which) {
        try {
            int answer = wild(which);
            Due.holds(name, true);
            return answer;
        } catch (RuntimeException thrown) {
            Due.holds(name + " threw " + thrown, false);
            return 0;
        }
    }

    private void prepare() {
        for (int i = 0; i < 5; i++) {
            x.event(i % 3, 1 << i % 4, 1 + i);
            for (int man = 0; man < 10; man++) {
                x.enter(i, man, true);
                x.entry(i, man, i % 3 == 2 ? man % 3 : 50 + man, i % 3 == 2 ? 1 + man % 9 : 0);
            }
        }
        x.sheet(0, 0, 60);
        x.sheet(1, 1, 6);
        x.sheet(2, 2, 0);
        x.lay(7);
    }

    /** What can be seen without a change, but for yards, which are put back. */
    private int[] seen() {
        int[] all = new int[700];
        int at = 0;
        for (int event = 0; event < 8; event++) {
            for (int what = 0; what <= 8; what++) {
                all[at++] = x.told(event, what);
            }
            all[at++] = x.begins(event);
            all[at++] = x.order(event);
            all[at++] = x.settled(event);
            all[at++] = x.paradox(event, x.told(0, 8));
            for (int man = 0; man < 10; man++) {
                all[at++] = x.mark(event, man, x.told(0, 8), 0);
                all[at++] = x.place(event, man, x.told(0, 8));
                all[at++] = x.won(event, man);
            }
        }
        for (int man = 0; man < 10; man++) {
            all[at] = x.yards(man, 0);
            x.yards(man, all[at++]);
            all[at++] = x.idle(man);
            all[at++] = x.all(man);
        }
        return all;
    }

    private int any() {
        int roll = random.nextInt(10);
        return roll == 0 ? random.nextInt() : roll < 6 ? random.nextInt(11) - 1 : EDGES[random.nextInt(EDGES.length)];
    }

    private int wild(int which) {
        int a = any();
        int b = any();
        int c = any();
        int d = any();
        switch (which) {
            case 0: return x.event(a, b, c);
            case 1: return x.enter(a, b, random.nextBoolean());
            case 2: return x.day(a, b);
            case 3: return x.call(a, b);
            case 4: return x.lay(a);
            case 5: return x.begins(a);
            case 6: return x.order(a);
            case 7: return x.idle(a);
            case 8: return x.stone(a, b, c);
            case 9: return x.way(a, b);
            case 10: return x.entry(a, b, c, d);
            case 11: return x.yards(a, b);
            case 12: return x.entries(a, b, c, d, any());
            case 13: return x.mark(a, b, c, d);
            case 14: return x.place(a, b, c);
            case 15: return x.fail(a, random.nextBoolean());
            case 16: return x.paradox(a, b);
            case 17: return x.settled(a);
            case 18: return x.type(random.nextBoolean() ? random.nextLong() : 0x31302C3130202C35L, a);
            case 19: return x.shares();
            case 20: return x.purse(a, b);
            case 21: return x.won(a, b);
            case 22: return x.all(a);
            case 23: return x.move(a, b);
            case 24: return x.sheet(a, b, c);
            case 25: return x.drop(a);
            case 26: return x.item(a, b, c, d);
            default: return x.told(a, b);
        }
    }
}
