import java.lang.reflect.Method;
import java.nio.file.Files;
import java.nio.file.Path;
import java.util.regex.Matcher;
import java.util.regex.Pattern;

/** The calls that README.md shows answer what it says behind them, and every call of the face is spoken of. */
public final class ReadmeTest {
    private static final Pattern CALL = Pattern.compile("games\\.(\\w+)\\(([^)]*)\\);\\s*// (-?\\d+)\\b.*");

    public static void main(String[] args) throws Exception {
        String text = Files.readString(Path.of("README.md"));
        GlenGames games = new GlenGames();
        int shown = 0;
        for (String line : text.split("\n")) {
            Matcher m = CALL.matcher(line);
            if (m.matches()) {
                String call = m.group(1) + "(" + m.group(2) + ")";
                Due.is(call, answer(games, m.group(1), m.group(2)), Integer.parseInt(m.group(3)));
                shown++;
            } else {
                Due.holds("a call with its answer: " + line, !line.startsWith("games."));
            }
        }
        Due.holds("README.md shows calls", shown > 20);
        for (Method m : GlenGames.class.getMethods()) {
            if (m.getDeclaringClass() == GlenGames.class) {
                Due.holds("README.md speaks of " + m.getName(), text.contains("`" + m.getName() + "`"));
            }
        }
        Due.end();
    }

    private static int answer(GlenGames games, String name, String numbers) throws Exception {
        for (Method m : GlenGames.class.getMethods()) {
            if (m.getName().equals(name) && m.getReturnType() == int.class) {
                return (int) m.invoke(games, arguments(m.getParameterTypes(), numbers));
            }
        }
        throw new IllegalArgumentException(name);
    }

    private static Object[] arguments(Class<?>[] types, String numbers) {
        String[] parts = numbers.isEmpty() ? new String[0] : numbers.split(", ");
        Object[] all = new Object[parts.length];
        for (int i = 0; i < all.length; i++) {
            if (types[i] == boolean.class) {
                all[i] = Boolean.valueOf(parts[i]);
            } else if (types[i] == long.class) {
                all[i] = Long.valueOf(parts[i]);
            } else {
                all[i] = Integer.valueOf(parts[i]);
            }
        }
        return all;
    }
}
