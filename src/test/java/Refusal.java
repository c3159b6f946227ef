import java.util.Arrays;
import java.util.EnumMap;
import java.util.Map;
import java.util.function.Consumer;
import java.util.function.Supplier;
import java.util.function.ToIntFunction;

/** Calls that are refused: what they answer, and that they change nothing. */
final class Refusal {
    private static final Map<States, int[][]> UNTOUCHED = new EnumMap<>(States.class);

    private Refusal() {
    }

    static void due(String what, States state, ToIntFunction<WhoKnows> call, int want) {
        Check.due(what + " in state " + state, call.applyAsInt(state.get()), want);
        nothingChanged(what + " in state " + state, state, call);
    }

    /** The same, of a state that needs some calls more. */
    static void due(String what, States state, Consumer<WhoKnows> more, ToIntFunction<WhoKnows> call, int want) {
        Supplier<WhoKnows> untouched = () -> {
            WhoKnows x = state.get();
            more.accept(x);
            return x;
        };
        Check.due(what, call.applyAsInt(untouched.get()), want);
        alike(what, Seen.of(() -> {
            WhoKnows x = untouched.get();
            call.applyAsInt(x);
            return x;
        }), Seen.of(untouched));
    }

    static void nothingChanged(String what, States state, ToIntFunction<WhoKnows> call) {
        alike(what, Seen.of(() -> {
            WhoKnows x = state.get();
            call.applyAsInt(x);
            return x;
        }), UNTOUCHED.computeIfAbsent(state, Seen::of));
    }

    private static void alike(String what, int[][] touched, int[][] untouched) {
        Check.due(what + ": is nothing changed", Arrays.deepEquals(touched, untouched) ? 1 : 0, 1);
    }
}
