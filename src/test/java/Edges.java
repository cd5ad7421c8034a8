import java.util.function.Supplier;
import java.util.function.ToIntFunction;

/** What the tests of edges have in common: calls that are refused must leave everything as it was. */
final class Edges {
    static final String INDEX = "throws.IndexOutOfBoundsException";
    static final String ARGUMENT = "throws.IllegalArgumentException";
    static final String STATE = "throws.IllegalStateException";

    private Edges() {
    }

    /** A call with one value, the others being in their ranges. */
    interface ValueCall {
        int call(Heapcarrier x, int value);
    }

    static void refused(Check c, String exception, Supplier<Heapcarrier> made, ToIntFunction<Heapcarrier> call) {
        Heapcarrier x = made.get();
        c.same("answer", Check.answer(() -> call.applyAsInt(x)), exception);
        c.same("answers after the refused call", States.everything(x), States.everything(made.get()));
    }

    /** The first values out of a range on each side, and the farthest ones. */
    static void refusedBeyond(Check c, int from, int to, Supplier<Heapcarrier> made, ValueCall call) {
        for (int value : new int[] {from - 1, to + 1, Integer.MIN_VALUE, Integer.MAX_VALUE}) {
            refused(c, ARGUMENT, made, x -> call.call(x, value));
        }
    }
}
