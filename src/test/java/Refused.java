import java.util.Arrays;
import java.util.function.Supplier;
import java.util.function.ToIntFunction;

/**
 * A call that is refused: its answer, and that it changed nothing. Two games are made alike, one alone gets the call,
 * and both are then looked at.
 */
final class Refused {
    private Refused() { }

    static void is(String name, Supplier<GlenGames> made, ToIntFunction<GlenGames> call, int due) {
        for (int which = 0; which < Look.LOOKS; which++) {
            GlenGames one = made.get();
            GlenGames other = made.get();
            Due.is(name, call.applyAsInt(one), due);
            Due.holds(name + " changed nothing (look " + which + ")",
                Arrays.equals(Look.at(one, which), Look.at(other, which)));
        }
    }

    /** The same for games in which something of all there is stands. */
    static void is(String name, ToIntFunction<GlenGames> call, int due) {
        is(name, Games::standing, call, due);
    }
}
