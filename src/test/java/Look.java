import java.util.Arrays;

/**
 * All that can be asked of games, as rows of answers. Some of it shows only by a change (a tape by typing on, a sheet by
 * entries laid from it), so games that were looked at are used up. Each look takes fewer than 400 calls.
 */
final class Look {
    static final int LOOKS = 3;

    private static final int[] LAYS = {1, 2, 4, 8, 16, 32, 64, 128, 3, 7, 15, 31, 63, 252};

    private final GlenGames x;
    private final int[] answers = new int[512];
    private int count;

    private Look(GlenGames x) {
        this.x = x;
    }

    static int[] at(GlenGames x, int which) {
        Look look = new Look(x);
        switch (which) {
            case 0: look.atTheDay(); break;
            case 1: look.atEntries(); break;
            default: look.atTapeAndSheets();
        }
        return Arrays.copyOf(look.answers, look.count);
    }

    private void note(int answer) {
        answers[count++] = answer;
    }

    private void atTheDay() {
        for (int event = 0; event < 8; event++) {
            for (int what = 0; what < 6; what++) {
                note(x.told(event, what));
            }
        }
        for (int man = 0; man < 10; man++) {
            note(x.idle(man));
        }
        atTheOrder();
        for (int bits : LAYS) {
            note(x.lay(bits));
            atTheOrder();
        }
        for (int i = 0; i < 9; i++) {
            note(x.call(0, 1));
        }
        for (int i = 0; i < 9; i++) {
            note(x.event(0, 15, 12));
        }
        // of the standing games these two take 24 spells, so a longer day shows
        note(x.lay(40));
    }

    private void atTheOrder() {
        for (int i = -1; i < 6; i++) {
            note(x.order(i));
        }
        for (int event = 0; event < 8; event++) {
            note(x.begins(event));
        }
    }

    private void atEntries() {
        int n = x.told(0, 8);
        note(n);
        for (int event = 0; event < 5; event++) {
            note(x.told(event, 6));
            note(x.settled(event));
            note(x.paradox(event, n));
            for (int man = 0; man < 10; man++) {
                note(x.mark(event, man, n, 0));
                note(x.place(event, man, n));
                note(x.won(event, man));
            }
        }
        for (int man = 0; man < 10; man++) {
            note(x.mark(0, man, n, 1));
            note(x.place(2, man, n - 1));
            note(x.all(man));
            note(x.yards(man, 0));
        }
        for (int event = 0; event < 5; event++) {
            note(x.fail(event, false));
            note(x.purse(event, 0));
            note(x.way(event, 100));
            note(x.move(event, n));
        }
        note(x.entry(0, 0, 1, 0));
    }

    private void atTapeAndSheets() {
        note(x.type(' ', 1));
        note(x.type(0x2020202020202020L, 8));
        note(x.shares());
        for (int man = 0; man < 10; man++) {
            note(x.won(0, man));
        }
        for (int sheet = 0; sheet < 4; sheet++) {
            for (int lane = 0; lane < 3; lane++) {
                atRow(sheet, lane);
            }
            note(x.drop(sheet));
            note(x.drop(sheet));
        }
        note(x.told(0, 8));
    }

    /** The race takes a row's items as man and time, two by two, from any item on. */
    private void atRow(int sheet, int lane) {
        note(x.item(sheet, lane, -1, 0));
        for (int i = 0; i < 7; i++) {
            int n = x.entries(1, sheet, lane, i, 1);
            note(n);
            for (int man = 0; man < 4 && n > 0; man++) {
                note(x.mark(1, man, n, 0));
            }
        }
        note(x.entries(1, sheet, lane, 60, 0));
    }
}
