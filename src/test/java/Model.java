import java.util.ArrayList;
import java.util.Arrays;
import java.util.Collections;
import java.util.List;
import java.util.TreeMap;

/** The document once more, written as plainly and slowly as it reads, for ModelTest to hold the class against. */
final class Model {
    private static final int BAD = -1, NOT = -2, FULL = -3, NULL = -11, CAST = -12, INDEX = -13, SIZE = -14;

    private static final class Event {
        int kind, parts, spells, purse, grams = 10000, slope, way = 220;
        boolean isVoid;
        final boolean[] men = new boolean[10];
    }

    private record Entry(int event, int man, int a, int b, int yards) { }

    private final List<Event> events = new ArrayList<>();
    private final List<Entry> entries = new ArrayList<>();
    private final List<int[]> pairs = new ArrayList<>();
    private final int[] yards = new int[10];
    private final Object[] sheets = new Object[4];
    private int length = 60;
    private int rest = 1;
    private List<Integer> order = new ArrayList<>();
    private TreeMap<Integer, Integer> begins = new TreeMap<>();
    private List<Integer> shares = List.of(60, 30, 10);
    private String tape = "";

    private static boolean in(long v, long least, long most) {
        return v >= least && v <= most;
    }

    private boolean no(int event) {
        return !in(event, 0, events.size() - 1);
    }

    int event(int kind, int parts, int spells) {
        if (!in(kind, 0, 2) || !in(parts, 1, 15) || !in(spells, 1, 12)) return BAD;
        if (events.size() == 8) return FULL;
        Event e = new Event();
        e.kind = kind;
        e.parts = parts;
        e.spells = spells;
        events.add(e);
        return events.size() - 1;
    }

    int enter(int event, int man, boolean is) {
        if (no(event) || !in(man, 0, 9)) return BAD;
        if (!is && entries.stream().anyMatch(x -> x.event == event && x.man == man)) return NOT;
        events.get(event).men[man] = is;
        int n = 0;
        for (boolean m : events.get(event).men) if (m) n++;
        return n;
    }

    int day(int spells, int theRest) {
        if (!in(spells, 1, 60) || !in(theRest, 0, 6)) return BAD;
        length = spells;
        rest = theRest;
        return 1;
    }

    int call(int event, int other) {
        if (no(event) || no(other) || event == other) return BAD;
        if (pairs.size() == 8) return FULL;
        pairs.add(new int[] {event, other});
        return pairs.size();
    }

    int lay(int bits) {
        if (bits <= 0) return BAD;
        List<Integer> set = new ArrayList<>();
        for (int i = 0; i < 31; i++) if ((bits >> i & 1) == 1) set.add(i);
        for (int e : set) if (no(e)) return BAD;
        if (set.size() > 6) return FULL;
        int best = Integer.MAX_VALUE;
        List<List<Integer>> all = new ArrayList<>();
        permute(set, new ArrayList<>(), all);
        for (List<Integer> one : all) {
            TreeMap<Integer, Integer> at = new TreeMap<>();
            for (int e : one) {
                int s = 0;
                while (s < 60 && !fits(e, s, at)) s++;
                if (s == 60) break;
                at.put(e, s);
            }
            if (at.size() < one.size()) continue;
            int end = 0;
            for (int e : one) end = Math.max(end, at.get(e) + events.get(e).spells);
            if (end < best) {
                best = end;
                order = one;
                begins = at;
            }
        }
        return best == Integer.MAX_VALUE ? NOT : best;
    }

    private static void permute(List<Integer> left, List<Integer> taken, List<List<Integer>> all) {
        if (left.isEmpty()) all.add(new ArrayList<>(taken));
        for (Integer e : left) {
            List<Integer> rest = new ArrayList<>(left);
            rest.remove(e);
            taken.add(e);
            permute(rest, taken, all);
            taken.remove(taken.size() - 1);
        }
    }

    private boolean fits(int event, int s, TreeMap<Integer, Integer> at) {
        Event e = events.get(event);
        if (s + e.spells > length) return false;
        for (int other : at.keySet()) {
            Event o = events.get(other);
            int from = at.get(other);
            int to = from + o.spells;
            for (int t = s; t < s + e.spells; t++) {
                if (t >= from && t < to && (e.parts & o.parts) != 0) return false;
            }
            int between = s >= to ? s - to : from >= s + e.spells ? from - s - e.spells : -1;
            for (int man = 0; man < 10; man++) {
                if (e.men[man] && o.men[man] && between < rest) return false;
            }
            for (int[] p : pairs) {
                if (p[0] == event && p[1] == other && s + e.spells > from) return false;
                if (p[0] == other && p[1] == event && to > s) return false;
            }
        }
        return true;
    }

    int begins(int event) {
        if (no(event) || order.isEmpty()) return BAD;
        return begins.getOrDefault(event, NOT);
    }

    int order(int i) {
        if (i == -1) return order.size();
        return in(i, 0, order.size() - 1) ? order.get(i) : BAD;
    }

    int idle(int man) {
        if (!in(man, 0, 9) || order.isEmpty()) return BAD;
        StringBuilder line = new StringBuilder(".".repeat(60));
        for (int e : order) {
            if (events.get(e).men[man]) {
                for (int t = 0; t < events.get(e).spells; t++) line.setCharAt(begins.get(e) + t, 'x');
            }
        }
        String his = line.toString().replaceAll("^\\.+", "").replaceAll("\\.+$", "");
        return his.isEmpty() ? NOT : his.replace("x", "").length();
    }

    int stone(int event, int grams, int slope) {
        if (no(event) || !in(grams, 1000, 30000) || !in(slope, -100, 100)) return BAD;
        if (events.get(event).kind != 0) return CAST;
        events.get(event).grams = grams;
        events.get(event).slope = slope;
        return 1;
    }

    int way(int event, int theWay) {
        if (no(event) || !in(theWay, 100, 2000)) return BAD;
        if (events.get(event).kind != 1) return CAST;
        int was = events.get(event).way;
        events.get(event).way = theWay;
        return was;
    }

    int yards(int man, int v) {
        if (!in(man, 0, 9) || !in(v, -50, 50)) return -1001;
        int was = yards[man];
        yards[man] = v;
        return was;
    }

    private boolean right(int event, int man, int a, int b) {
        Event e = events.get(event);
        if (!in(man, 0, 9) || !e.men[man]) return false;
        return switch (e.kind) {
            case 0 -> in(a, -1, 9999) && in(b, -20, 20);
            case 1 -> in(a, 1, 9999) && b == 0;
            default -> in(a, 0, 2) && in(b, 1, 9);
        };
    }

    int entry(int event, int man, int a, int b) {
        if (no(event) || !right(event, man, a, b)) return BAD;
        if (entries.size() == 160) return FULL;
        entries.add(new Entry(event, man, a, b, yards[man]));
        return entries.size() - 1;
    }

    private int laneOf(Object row) {
        return row instanceof byte[] ? 0 : row instanceof short[] ? 1 : 2;
    }

    private int[] itemsOf(Object row) {
        int n = java.lang.reflect.Array.getLength(row);
        int[] items = new int[n];
        for (int i = 0; i < n; i++) items[i] = java.lang.reflect.Array.getInt(row, i);
        return items;
    }

    int entries(int event, int sheet, int lane, int i, int n) {
        if (no(event) || !in(sheet, 0, 3) || !in(lane, 0, 2) || !in(n, 0, 30)) return BAD;
        if (sheets[sheet] == null) return NULL;
        if (laneOf(sheets[sheet]) != lane) return CAST;
        int[] items = itemsOf(sheets[sheet]);
        int width = events.get(event).kind == 1 ? 2 : 3;
        if (i < 0 || (long) i + (long) n * width > items.length) return INDEX;
        List<int[]> rows = new ArrayList<>();
        for (int k = 0; k < n; k++) {
            int from = i + k * width;
            rows.add(Arrays.copyOf(Arrays.copyOfRange(items, from, from + width), 3));
        }
        for (int[] r : rows) if (!right(event, r[0], r[1], r[2])) return NOT;
        if (entries.size() + n > 160) return FULL;
        for (int[] r : rows) entry(event, r[0], r[1], r[2]);
        return entries.size();
    }

    /** The marks of a man as of n, or null where he has none. */
    private List<Integer> marks(int event, int man, int n) {
        Event e = events.get(event);
        List<Entry> his = new ArrayList<>();
        for (Entry x : entries.subList(0, n)) if (x.event == event && x.man == man) his.add(x);
        if (e.kind == 2) return danceMarks(his);
        if (his.isEmpty()) return null;
        if (e.kind == 1) {
            Entry last = his.get(his.size() - 1);
            return List.of(last.a * e.way / (e.way - last.yards));
        }
        List<Integer> marks = new ArrayList<>();
        for (Entry x : his.subList(Math.max(0, his.size() - 6), his.size())) {
            long fair = (long) x.a * (1000 - e.slope - 2 * x.b) * e.grams / 10000000L;
            marks.add(x.a == -1 ? -1 : (int) fair);
        }
        while (marks.size() < 6) marks.add(-1);
        marks.sort(Collections.reverseOrder());
        return marks;
    }

    private static int[] judged(List<Entry> his) {
        int[] by = new int[3];
        for (Entry x : his) by[x.a] = x.b;
        return by;
    }

    private static List<Integer> danceMarks(List<Entry> his) {
        int[] by = judged(his);
        int[] sorted = by.clone();
        Arrays.sort(sorted);
        return sorted[0] == 0 ? null : List.of(100 * sorted[1] + sorted[0] + sorted[1] + sorted[2]);
    }

    int mark(int event, int man, int n, int k) {
        if (no(event) || !in(man, 0, 9) || !in(n, 0, entries.size())) return BAD;
        if (!in(k, 0, events.get(event).kind == 0 ? 5 : 0)) return BAD;
        List<Integer> his = marks(event, man, n);
        return his == null ? NOT : his.get(k);
    }

    private boolean ahead(int event, List<Integer> one, List<Integer> other) {
        for (int k = 0; k < one.size(); k++) {
            int sign = Integer.compare(one.get(k), other.get(k));
            if (sign != 0) return events.get(event).kind == 0 ? sign > 0 : sign < 0;
        }
        return false;
    }

    int place(int event, int man, int n) {
        if (no(event) || !in(man, 0, 9) || !in(n, 0, entries.size())) return BAD;
        List<Integer> his = marks(event, man, n);
        if (events.get(event).isVoid || his == null) return NOT;
        int place = 1;
        for (int other = 0; other < 10; other++) {
            List<Integer> theirs = marks(event, other, n);
            if (theirs != null && ahead(event, theirs, his)) place++;
        }
        return place;
    }

    int fail(int event, boolean is) {
        if (no(event)) return BAD;
        int was = events.get(event).isVoid ? 1 : 0;
        events.get(event).isVoid = is;
        return was;
    }

    int paradox(int event, int n) {
        if (no(event) || !in(n, 0, entries.size())) return BAD;
        if (events.get(event).kind != 2) return CAST;
        if (events.get(event).isVoid) return NOT;
        int[][] by = new int[10][];
        for (int man = 0; man < 10; man++) {
            int m = man;
            by[man] = judged(entries.subList(0, n).stream().filter(x -> x.event == event && x.man == m).toList());
        }
        for (int man = 0; man < 10; man++) {
            if (place(event, man, n) <= 1) continue;
            boolean all = true;
            int others = 0;
            for (int other = 0; other < 10; other++) {
                if (other == man || marks(event, other, n) == null) continue;
                others++;
                int judges = 0;
                for (int j = 0; j < 3; j++) if (by[man][j] < by[other][j]) judges++;
                all &= judges >= 2;
            }
            if (all && others > 0) return man;
        }
        return NOT;
    }

    private List<Integer> places(int event, int n) {
        List<Integer> all = new ArrayList<>();
        for (int man = 0; man < 10; man++) all.add(place(event, man, n));
        return all;
    }

    int settled(int event) {
        if (no(event)) return BAD;
        List<Integer> last = places(event, entries.size());
        int n = entries.size();
        while (n > 0 && places(event, n - 1).equals(last)) n--;
        return n;
    }

    int type(long w, int n) {
        if (!in(n, 1, 8)) return BAD;
        String text = "";
        for (int i = n - 1; i >= 0; i--) {
            long sign = w >>> (8 * i) & 0xFF;
            if (!in(sign, 32, 126)) return BAD;
            text += (char) sign;
        }
        if (tape.length() + n > 40) return FULL;
        tape += text;
        return tape.length();
    }

    /** By states: a number is due, a number is open, or a number is over. */
    int shares() {
        String text = tape;
        tape = "";
        List<Integer> found = new ArrayList<>();
        int sum = 0;
        boolean due = true;
        for (int i = 0; i < text.length(); i++) {
            char c = text.charAt(i);
            if (c == ' ') continue;
            if (due) {
                int end = i;
                while (end < text.length() && Character.isDigit(text.charAt(end))) end++;
                if (end == i || end - i > 3) return -20 - i;
                int number = Integer.parseInt(text.substring(i, end));
                if (sum + number > 100) return -20 - i;
                sum += number;
                found.add(number);
                due = false;
                i = end - 1;
            } else {
                if (c != ',' || found.size() == 6) return -20 - i;
                due = true;
            }
        }
        if (due) return -20 - text.length();
        shares = found;
        return found.size();
    }

    int purse(int event, int pence) {
        if (no(event) || !in(pence, 0, 100000)) return BAD;
        int was = events.get(event).purse;
        events.get(event).purse = pence;
        return was;
    }

    private int shareOf(int purse, int k) {
        int first = 0;
        int before = 0;
        for (int i = 0; i < shares.size() && i < k; i++) {
            first += shares.get(i);
            if (i < k - 1) before += shares.get(i);
        }
        return k > shares.size() ? 0 : purse * first / 100 - purse * before / 100;
    }

    int won(int event, int man) {
        if (no(event) || !in(man, 0, 9)) return BAD;
        List<Integer> all = places(event, entries.size());
        int p = all.get(man);
        if (p == NOT) return 0;
        List<Integer> like = new ArrayList<>();
        for (int m = 0; m < 10; m++) if (all.get(m) == p) like.add(m);
        int together = 0;
        for (int k = p; k < p + like.size(); k++) together += shareOf(events.get(event).purse, k);
        int each = together / like.size();
        return each + (like.indexOf(man) < together - each * like.size() ? 1 : 0);
    }

    int all(int man) {
        if (!in(man, 0, 9)) return BAD;
        int sum = 0;
        for (int e = 0; e < events.size(); e++) sum += won(e, man);
        return sum;
    }

    int move(int event, int n) {
        if (no(event) || !in(n, 0, entries.size())) return BAD;
        if (events.get(event).kind != 1) return CAST;
        List<Integer> all = places(event, n);
        int told = 10 - Collections.frequency(all, NOT);
        int changed = 0;
        for (int man = 0; man < 10; man++) {
            if (all.get(man) == NOT) continue;
            int was = yards[man];
            yards[man] += 2 * all.get(man) - 1 - told;
            if (yards[man] > 50) yards[man] = 50;
            if (yards[man] < -50) yards[man] = -50;
            if (yards[man] != was) changed++;
        }
        return changed;
    }

    int sheet(int sheet, int lane, int n) {
        if (!in(sheet, 0, 3) || !in(lane, 0, 2) || n > 60) return BAD;
        if (n < 0) return SIZE;
        sheets[sheet] = lane == 0 ? new byte[n] : lane == 1 ? new short[n] : new int[n];
        return n;
    }

    int drop(int sheet) {
        if (!in(sheet, 0, 3)) return BAD;
        if (sheets[sheet] == null) return NULL;
        int n = itemsOf(sheets[sheet]).length;
        sheets[sheet] = null;
        return n;
    }

    int item(int sheet, int lane, int i, int v) {
        if (!in(sheet, 0, 3) || !in(lane, 0, 2)) return BAD;
        Object row = sheets[sheet];
        if (row == null) return NULL;
        if (laneOf(row) != lane) return CAST;
        if (!in(i, 0, itemsOf(row).length - 1)) return INDEX;
        if (row instanceof byte[] b) b[i] = (byte) v;
        if (row instanceof short[] s) s[i] = (short) v;
        if (row instanceof int[] t) t[i] = v;
        return 1;
    }

    int told(int event, int what) {
        if (what == 7) return events.size();
        if (what == 8) return entries.size();
        if (no(event) || !in(what, 0, 8)) return BAD;
        Event e = events.get(event);
        int men = 0;
        for (int m = 0; m < 10; m++) men |= e.men[m] ? 1 << m : 0;
        int told = 10 - Collections.frequency(places(event, entries.size()), NOT);
        return new int[] {e.kind, e.parts, e.spells, men, e.purse, e.isVoid ? 1 : 0, told}[what];
    }
}
