import java.lang.reflect.Constructor;
import java.lang.reflect.Field;
import java.lang.reflect.Method;
import java.lang.reflect.Modifier;
import java.util.Arrays;
import java.util.HashSet;
import java.util.Set;
import java.util.TreeSet;

/** Promise 1 and the public face: names, types, constants, and a new object's state. */
public final class FaceTest {
    private static final String[] FACE = {
        "all(int)", "begins(int)", "call(int,int)", "day(int,int)", "drop(int)", "enter(int,int,boolean)",
        "entries(int,int,int,int,int)", "entry(int,int,int,int)", "event(int,int,int)", "fail(int,boolean)",
        "idle(int)", "item(int,int,int,int)", "lay(int)", "mark(int,int,int,int)", "move(int,int)", "order(int)",
        "paradox(int,int)", "place(int,int,int)", "purse(int,int)", "settled(int)", "shares()",
        "sheet(int,int,int)", "stone(int,int,int)", "told(int,int)", "type(long,int)", "way(int,int)",
        "won(int,int)", "yards(int,int)"};

    public static void main(String[] args) throws Exception {
        methods();
        constants();
        newObject();
        Due.end();
    }

    private static void methods() {
        Set<String> found = new TreeSet<>();
        Set<String> names = new HashSet<>();
        for (Method m : GlenGames.class.getDeclaredMethods()) {
            if (Modifier.isPublic(m.getModifiers())) {
                found.add(signature(m));
                names.add(m.getName());
                Due.holds(m + " answers an int", m.getReturnType() == int.class);
            }
        }
        Due.holds("the methods are " + found, found.equals(new TreeSet<>(Arrays.asList(FACE))));
        for (Method m : GlenGames.class.getDeclaredMethods()) {
            boolean isPrivate = Modifier.isPrivate(m.getModifiers());
            Due.holds(m + " is public or private", isPrivate || Modifier.isPublic(m.getModifiers()));
            Due.holds(m + " has a name of its own", !isPrivate || !names.contains(m.getName()));
        }
        Constructor<?>[] all = GlenGames.class.getDeclaredConstructors();
        Due.is("constructors", all.length, 1);
        Due.holds("the constructor is public", Modifier.isPublic(all[0].getModifiers()));
        Due.holds("the class is final", Modifier.isFinal(GlenGames.class.getModifiers()));
    }

    private static String signature(Method m) {
        StringBuilder text = new StringBuilder(m.getName()).append('(');
        for (Class<?> type : m.getParameterTypes()) {
            text.append(text.charAt(text.length() - 1) == '(' ? "" : ",").append(type.getName());
        }
        return text.append(')').toString();
    }

    private static void constants() {
        Due.is("BAD", GlenGames.BAD, -1);
        Due.is("NOT", GlenGames.NOT, -2);
        Due.is("FULL", GlenGames.FULL, -3);
        Due.is("NULL", GlenGames.NULL, -11);
        Due.is("CAST", GlenGames.CAST, -12);
        Due.is("INDEX", GlenGames.INDEX, -13);
        Due.is("SIZE", GlenGames.SIZE, -14);
        int open = 0;
        for (Field f : GlenGames.class.getDeclaredFields()) {
            boolean isPublic = Modifier.isPublic(f.getModifiers());
            open += isPublic ? 1 : 0;
            Due.holds(f + " is private or a constant of the face", isPublic || Modifier.isPrivate(f.getModifiers()));
        }
        Due.is("public constants", open, 7);
    }

    private static void newObject() {
        GlenGames x = new GlenGames();
        Due.is("told(0, 7)", x.told(0, 7), 0);
        Due.is("told(0, 8)", x.told(0, 8), 0);
        Due.is("order(-1)", x.order(-1), 0);
        Due.is("begins(0)", x.begins(0), -1);
        Due.is("idle(0)", x.idle(0), -1);
        for (int man = 0; man < 10; man++) {
            Due.is("all", x.all(man), 0);
            Due.is("yards", x.yards(man, 0), 0);
        }
        for (int sheet = 0; sheet < 4; sheet++) {
            Due.is("drop", x.drop(sheet), -11);
        }
        Due.is("shares() of an empty tape", x.shares(), -20);
        firstSettings(x);
        GlenGames other = new GlenGames();
        Due.is("another object has nothing of the first", other.told(0, 7), 0);
    }

    private static void firstSettings(GlenGames x) {
        Due.is("event 0", x.event(0, 1, 12), 0);
        Due.is("event 1", x.event(1, 2, 12), 1);
        Due.is("men at first", x.told(0, 3), 0);
        Due.is("purse at first", x.told(0, 4), 0);
        Due.is("void at first", x.told(0, 5), 0);
        Due.is("way at first", x.way(1, 220), 220);
        x.enter(0, 0, true);
        x.enter(1, 0, true);
        Due.is("rest is 1 at first", x.lay(3), 25);
        x.entry(0, 0, 9999, 0);
        Due.is("stone and slope at first", x.mark(0, 0, 1, 0), 9999);
        x.purse(0, 100);
        Due.is("shares at first, 1", x.won(0, 0), 60);
        x.enter(0, 1, true);
        x.enter(0, 2, true);
        x.enter(0, 3, true);
        x.entry(0, 1, 4000, 0);
        x.entry(0, 2, 3000, 0);
        x.entry(0, 3, 2000, 0);
        Due.is("shares at first, 2", x.won(0, 1), 30);
        Due.is("shares at first, 3", x.won(0, 2), 10);
        Due.is("shares at first, 4", x.won(0, 3), 0);
        fiveOfTwelve();
    }

    /** The day has 60 spells at first: five events of 12 on one part fill it, six do not fit. */
    private static void fiveOfTwelve() {
        GlenGames x = new GlenGames();
        for (int i = 0; i < 6; i++) {
            x.event(i % 3, 1, 12);
        }
        Due.is("five of 12", x.lay(31), 60);
        Due.is("six of 12", x.lay(63), -2);
    }
}
