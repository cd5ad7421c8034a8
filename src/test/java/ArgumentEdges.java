import java.util.Map;
import java.util.function.Consumer;
import java.util.function.LongSupplier;
import java.util.function.Supplier;

/** How far each argument may go: the last value that is taken and the first that is refused, on each side. */
final class ArgumentEdges {
    private static final int NONE = Heapcarrier.NONE;
    private static final int LINE = Heapcarrier.LINE;
    private static final int SQUARE = Heapcarrier.SQUARE;
    private static final int RING = Heapcarrier.RING;

    /** A call about a way, its other arguments being in their ranges. */
    private interface WayCall {
        int call(Heapcarrier x, int heap, int hole);
    }

    /** A call about a heap or a hole, its other arguments being in their ranges. */
    private interface SideCall {
        int call(Heapcarrier x, boolean isHole, int number);
    }

    static void addTo(Map<String, Consumer<Check>> tests) {
        tests.put("heap: place 0 to 100", c -> placeOfNew(c, false));
        tests.put("heap: amount 1 to 20", c -> amountOfNew(c, false));
        tests.put("heap: numbered from 0, at most 5", c -> atMostFive(c, false));
        tests.put("heap: a bad argument goes before being full", c -> argumentBeforeFull(c, false));
        tests.put("hole: place 0 to 100", c -> placeOfNew(c, true));
        tests.put("hole: amount 1 to 20", c -> amountOfNew(c, true));
        tests.put("hole: numbered from 0, at most 5", c -> atMostFive(c, true));
        tests.put("hole: a bad argument goes before being full", c -> argumentBeforeFull(c, true));
        tests.put("alter: place 0 to 100", ArgumentEdges::alterPlace);
        tests.put("alter: amount 1 to 20, the one before is returned", ArgumentEdges::alterAmount);
        tests.put("measure: LINE, SQUARE or RING", ArgumentEdges::measure);
        tests.put("measure: a length of 1 to 200 for RING", ArgumentEdges::length);
        tests.put("measure: any length otherwise, it does not matter", ArgumentEdges::lengthDoesNotMatter);
        tests.put("own: 0 to 10000 or NONE", ArgumentEdges::own);
        tests.put("cap: 0 to 20 or NONE", ArgumentEdges::cap);
        tests.put("terms: lost 0 to 10000", ArgumentEdges::lost);
        tests.put("terms: missing 0 to 10000", ArgumentEdges::missing);
        tests.put("carry: units 0 to 20", ArgumentEdges::units);
        tests.put("about: what 0 to 2", ArgumentEdges::aboutWhat);
        tests.put("count: what 0 to 6", ArgumentEdges::countWhat);
        addNumbers(tests);
        addOrderOfExceptions(tests);
    }

    private static void addNumbers(Map<String, Consumer<Check>> tests) {
        addWay(tests, "own", (x, heap, hole) -> x.own(heap, hole, 5));
        addWay(tests, "cap", (x, heap, hole) -> x.cap(heap, hole, 5));
        addWay(tests, "unit", Heapcarrier::unit);
        addWay(tests, "carried", Heapcarrier::carried);
        addWay(tests, "without", Heapcarrier::without);
        addWay(tests, "toll", Heapcarrier::toll);
        addWay(tests, "carry", (x, heap, hole) -> x.carry(heap, hole, 5));
        addSide(tests, "alter", (x, isHole, number) -> x.alter(isHole, number, 5, 5));
        addSide(tests, "left", Heapcarrier::left);
        addSide(tests, "price", Heapcarrier::price);
        addSide(tests, "about", (x, isHole, number) -> x.about(isHole, number, 1));
    }

    private static void addWay(Map<String, Consumer<Check>> tests, String name, WayCall call) {
        tests.put(name + ": no way without a heap and a hole", c -> noWayYet(c, call));
        tests.put(name + ": the last heap and hole, and the first that are not", c -> wayNumbers(c, call));
    }

    private static void addSide(Map<String, Consumer<Check>> tests, String name, SideCall call) {
        tests.put(name + ": nothing there yet", c -> noneYet(c, call));
        tests.put(name + ": the last heap or hole, and the first that is not", c -> sideNumbers(c, call));
    }

    private static void addOrderOfExceptions(Map<String, Consumer<Check>> tests) {
        tests.put("alter: no such one goes before a bad argument", ArgumentEdges::alterBoth);
        tests.put("own: no such way goes before a bad cost",
                c -> wayBeforeArgument(c, (x, heap, hole) -> x.own(heap, hole, 10001)));
        tests.put("cap: no such way goes before a bad cap",
                c -> wayBeforeArgument(c, (x, heap, hole) -> x.cap(heap, hole, 21)));
        tests.put("carry: no such way goes before bad units",
                c -> wayBeforeArgument(c, (x, heap, hole) -> x.carry(heap, hole, -1)));
        tests.put("about: no such one goes before a bad what", ArgumentEdges::aboutBoth);
    }

    private static int add(Heapcarrier x, boolean isHole, int place, int amount) {
        return isHole ? x.hole(place, amount) : x.heap(place, amount);
    }

    private static void placeOfNew(Check c, boolean isHole) {
        for (int place : PromiseTests.row(0, 1, 99, 100)) {
            Heapcarrier x = new Heapcarrier();
            c.is(0, () -> add(x, isHole, place, 7));
            c.is(place, () -> x.about(isHole, 0, 0));
            c.is(7, () -> x.about(isHole, 0, 1));
        }
        Edges.refusedBeyond(c, 0, 100, States::nothing, (x, place) -> add(x, isHole, place, 7));
        Edges.refusedBeyond(c, 0, 100, States::some, (x, place) -> add(x, isHole, place, 7));
    }

    private static void amountOfNew(Check c, boolean isHole) {
        for (int amount : PromiseTests.row(1, 2, 19, 20)) {
            Heapcarrier x = new Heapcarrier();
            c.is(0, () -> add(x, isHole, 7, amount));
            c.is(amount, () -> x.about(isHole, 0, 1));
            c.is(amount, () -> x.left(isHole, 0));
            c.is(1000 * amount, x::least);
        }
        Edges.refusedBeyond(c, 1, 20, States::nothing, (x, amount) -> add(x, isHole, 7, amount));
        Edges.refusedBeyond(c, 1, 20, States::some, (x, amount) -> add(x, isHole, 7, amount));
    }

    private static void atMostFive(Check c, boolean isHole) {
        Supplier<Heapcarrier> five = () -> {
            Heapcarrier x = new Heapcarrier();
            for (int k = 0; k < 5; k++) {
                int number = k;
                c.is(number, () -> add(x, isHole, 10 * number, number + 1));
            }
            return x;
        };
        Edges.refused(c, Edges.STATE, five, x -> add(x, isHole, 0, 1));
        Edges.refused(c, Edges.STATE, States::full, x -> add(x, isHole, 100, 20));
        Heapcarrier x = five.get();
        c.badState(() -> add(x, isHole, 0, 1));
        c.is(40, () -> x.about(isHole, 4, 0));
        // The other side is not full by it, and is counted on its own.
        for (int k = 0; k < 5; k++) {
            int number = k;
            c.is(number, () -> add(x, !isHole, 0, 1));
        }
        c.badState(() -> add(x, !isHole, 0, 1));
        c.badState(() -> add(x, isHole, 0, 1));
        c.is(5, () -> x.count(0));
        c.is(5, () -> x.count(1));
    }

    private static void argumentBeforeFull(Check c, boolean isHole) {
        Edges.refusedBeyond(c, 0, 100, States::full, (x, place) -> add(x, isHole, place, 1));
        Edges.refusedBeyond(c, 1, 20, States::full, (x, amount) -> add(x, isHole, 0, amount));
    }

    private static void alterPlace(Check c) {
        for (boolean isHole : new boolean[] {false, true}) {
            for (int place : PromiseTests.row(0, 1, 99, 100)) {
                Heapcarrier x = States.some();
                c.is(isHole ? 2 : 4, () -> x.alter(isHole, 1, place, 6));
                c.is(place, () -> x.about(isHole, 1, 0));
                c.is(6, () -> x.about(isHole, 1, 1));
                c.is(isHole ? 4 : 0, () -> x.about(isHole, 0, 0));
                c.is(isHole ? 10 : 20, () -> x.about(!isHole, 1, 0));
            }
            Edges.refusedBeyond(c, 0, 100, States::some, (x, place) -> x.alter(isHole, 1, place, 6));
        }
    }

    private static void alterAmount(Check c) {
        for (boolean isHole : new boolean[] {false, true}) {
            Heapcarrier x = States.some();
            c.is(isHole ? 2 : 4, () -> x.alter(isHole, 1, 7, 1));
            c.is(1, () -> x.alter(isHole, 1, 7, 20));
            c.is(20, () -> x.alter(isHole, 1, 7, 20));
            c.is(20, () -> x.about(isHole, 1, 1));
            c.is(isHole ? 5 : 3, () -> x.about(isHole, 0, 1));
            Edges.refusedBeyond(c, 1, 20, States::some, (y, amount) -> y.alter(isHole, 1, 7, amount));
        }
    }

    private static void measure(Check c) {
        Heapcarrier x = States.nothing();
        c.is(LINE, () -> x.measure(LINE, 1));
        c.is(LINE, () -> x.measure(RING, 1));
        c.is(RING, () -> x.measure(SQUARE, 1));
        c.is(SQUARE, () -> x.measure(LINE, 1));
        c.is(LINE, () -> x.count(2));
        Edges.refusedBeyond(c, LINE, RING, States::nothing, (y, measure) -> y.measure(measure, 50));
        Edges.refusedBeyond(c, LINE, RING, States::some, (y, measure) -> y.measure(measure, 50));
    }

    private static void length(Check c) {
        for (int length : PromiseTests.row(1, 2, 199, 200)) {
            Heapcarrier x = PromiseTests.of(PromiseTests.row(0, 1), PromiseTests.row(100, 1));
            c.is(LINE, () -> x.measure(RING, length));
            c.is(length, () -> x.count(3));
            c.is(length == 1 || length == 2 ? 0 : length - 100, () -> x.unit(0, 0));
        }
        Edges.refusedBeyond(c, 1, 200, States::nothing, (x, length) -> x.measure(RING, length));
        Edges.refusedBeyond(c, 1, 200, States::some, (x, length) -> x.measure(RING, length));
        Edges.refusedBeyond(c, 1, 200, States::full, (x, length) -> x.measure(RING, length));
    }

    private static void lengthDoesNotMatter(Check c) {
        for (int length : PromiseTests.row(0, -1, 1, 200, 201, Integer.MIN_VALUE, Integer.MAX_VALUE)) {
            Heapcarrier x = PromiseTests.of(PromiseTests.row(0, 1), PromiseTests.row(100, 1));
            c.is(LINE, () -> x.measure(SQUARE, length));
            c.is(0, () -> x.count(3));
            c.is(10000, () -> x.unit(0, 0));
            c.is(SQUARE, () -> x.measure(LINE, length));
            c.is(0, () -> x.count(3));
            c.is(100, () -> x.unit(0, 0));
            x.measure(RING, 77);
            x.measure(SQUARE, length);
            x.measure(LINE, length);
            c.is(77, () -> x.count(3));
        }
    }

    private static void own(Check c) {
        for (int cost : PromiseTests.row(NONE, 0, 1, 9999, 10000)) {
            Heapcarrier x = States.some();
            // The way was given an own cost of 7; by the measure it is 10.
            c.is(7, () -> x.own(0, 1, cost));
            c.is(cost == NONE ? 10 : cost, () -> x.unit(0, 1));
            c.is(cost, () -> x.own(0, 1, 3));
            c.is(NONE, () -> x.own(0, 0, NONE));
        }
        Edges.refusedBeyond(c, NONE, 10000, States::some, (x, cost) -> x.own(0, 1, cost));
        Edges.refusedBeyond(c, NONE, 10000, States::full, (x, cost) -> x.own(4, 4, cost));
    }

    private static void cap(Check c) {
        for (int cap : PromiseTests.row(NONE, 0, 1, 19, 20)) {
            Heapcarrier x = States.some();
            c.is(3, () -> x.cap(1, 0, cap));
            c.is(cap, () -> x.cap(1, 0, 2));
            c.is(NONE, () -> x.cap(0, 0, NONE));
        }
        Edges.refusedBeyond(c, NONE, 20, States::some, (x, cap) -> x.cap(1, 0, cap));
        Edges.refusedBeyond(c, NONE, 20, States::full, (x, cap) -> x.cap(4, 4, cap));
    }

    private static void lost(Check c) {
        for (int lost : PromiseTests.row(0, 1, 9999, 10000)) {
            Heapcarrier x = PromiseTests.of(PromiseTests.row(0, 3), PromiseTests.row());
            c.is(1000, () -> x.terms(lost, 5));
            c.is(lost, () -> x.count(4));
            c.is(5, () -> x.count(5));
            c.is(3 * lost, x::least);
            c.is(lost, () -> x.terms(8, 9));
        }
        Edges.refusedBeyond(c, 0, 10000, States::some, (x, lost) -> x.terms(lost, 5));
    }

    private static void missing(Check c) {
        for (int missing : PromiseTests.row(0, 1, 9999, 10000)) {
            Heapcarrier x = PromiseTests.of(PromiseTests.row(), PromiseTests.row(0, 3));
            c.is(1000, () -> x.terms(5, missing));
            c.is(5, () -> x.count(4));
            c.is(missing, () -> x.count(5));
            c.is(3 * missing, x::least);
            c.is(5, () -> x.terms(8, 9));
        }
        Edges.refusedBeyond(c, 0, 10000, States::some, (x, missing) -> x.terms(5, missing));
    }

    private static void units(Check c) {
        for (int units : PromiseTests.row(0, 1, 19, 20)) {
            Heapcarrier x = States.some();
            c.is(2, () -> x.carry(0, 0, units));
            c.is(units, () -> x.about(false, 0, 2));
            c.is(units, () -> x.about(true, 0, 2));
            c.is(units, () -> x.carry(0, 0, 1));
        }
        Edges.refusedBeyond(c, 0, 20, States::some, (x, units) -> x.carry(0, 0, units));
        Edges.refusedBeyond(c, 0, 20, States::full, (x, units) -> x.carry(4, 4, units));
    }

    private static void aboutWhat(Check c) {
        Heapcarrier x = States.full();
        c.is(100, () -> x.about(false, 4, 0));
        c.is(20, () -> x.about(false, 4, 1));
        c.is(9, () -> x.about(false, 4, 2));
        c.is(0, () -> x.about(true, 4, 0));
        c.is(9, () -> x.about(true, 4, 1));
        c.is(9, () -> x.about(true, 4, 2));
        Edges.refusedBeyond(c, 0, 2, States::full, (y, what) -> y.about(false, 4, what));
        Edges.refusedBeyond(c, 0, 2, States::full, (y, what) -> y.about(true, 4, what));
    }

    private static void countWhat(Check c) {
        Heapcarrier x = States.some();
        c.is(3, () -> x.count(0));
        c.is(7, () -> x.count(6));
        Edges.refusedBeyond(c, 0, 6, States::nothing, Heapcarrier::count);
        Edges.refusedBeyond(c, 0, 6, States::some, Heapcarrier::count);
    }

    private static void noWayYet(Check c, WayCall call) {
        Edges.refused(c, Edges.INDEX, States::nothing, x -> call.call(x, 0, 0));
        Supplier<Heapcarrier> heapsAlone = () -> PromiseTests.of(PromiseTests.row(1, 2, 3, 4), PromiseTests.row());
        Edges.refused(c, Edges.INDEX, heapsAlone, x -> call.call(x, 0, 0));
        Edges.refused(c, Edges.INDEX, heapsAlone, x -> call.call(x, 1, -1));
        Supplier<Heapcarrier> holesAlone = () -> PromiseTests.of(PromiseTests.row(), PromiseTests.row(1, 2, 3, 4));
        Edges.refused(c, Edges.INDEX, holesAlone, x -> call.call(x, 0, 0));
        Edges.refused(c, Edges.INDEX, holesAlone, x -> call.call(x, -1, 1));
        // As soon as both are there, it is taken.
        Heapcarrier x = heapsAlone.get();
        c.noSuch(() -> call.call(x, 1, 0));
        x.hole(5, 6);
        c.same("answer", isTaken(() -> call.call(x, 1, 0)), "taken");
    }

    private static String isTaken(LongSupplier call) {
        String answer = Check.answer(call);
        return answer.startsWith("throws") ? answer : "taken";
    }

    private static void wayNumbers(Check c, WayCall call) {
        c.same("answer", isTaken(() -> call.call(States.some(), 0, 0)), "taken");
        c.same("answer", isTaken(() -> call.call(States.some(), 2, 1)), "taken");
        c.same("answer", isTaken(() -> call.call(States.full(), 4, 4)), "taken");
        for (int number : PromiseTests.row(-1, 3, 4, 5, 25, Integer.MIN_VALUE, Integer.MAX_VALUE)) {
            Edges.refused(c, Edges.INDEX, States::some, x -> call.call(x, number, 1));
        }
        // There is a heap 2, but no hole 2.
        for (int number : PromiseTests.row(-1, 2, 4, 5, 25, Integer.MIN_VALUE, Integer.MAX_VALUE)) {
            Edges.refused(c, Edges.INDEX, States::some, x -> call.call(x, 2, number));
        }
        for (int number : PromiseTests.row(-1, 5)) {
            Edges.refused(c, Edges.INDEX, States::full, x -> call.call(x, number, 4));
            Edges.refused(c, Edges.INDEX, States::full, x -> call.call(x, 4, number));
        }
    }

    private static void noneYet(Check c, SideCall call) {
        for (boolean isHole : new boolean[] {false, true}) {
            Edges.refused(c, Edges.INDEX, States::nothing, x -> call.call(x, isHole, 0));
            // One of the other side does not help.
            Supplier<Heapcarrier> other = () -> {
                Heapcarrier x = new Heapcarrier();
                add(x, !isHole, 1, 2);
                return x;
            };
            Edges.refused(c, Edges.INDEX, other, x -> call.call(x, isHole, 0));
            Heapcarrier x = other.get();
            c.noSuch(() -> call.call(x, isHole, 0));
            add(x, isHole, 3, 4);
            c.same("answer", isTaken(() -> call.call(x, isHole, 0)), "taken");
        }
    }

    private static void sideNumbers(Check c, SideCall call) {
        c.same("answer", isTaken(() -> call.call(States.some(), false, 2)), "taken");
        c.same("answer", isTaken(() -> call.call(States.some(), true, 1)), "taken");
        for (int number : PromiseTests.row(-1, 3, 5, Integer.MIN_VALUE, Integer.MAX_VALUE)) {
            Edges.refused(c, Edges.INDEX, States::some, x -> call.call(x, false, number));
        }
        // There is a heap 2, but no hole 2.
        for (int number : PromiseTests.row(-1, 2, 5, Integer.MIN_VALUE, Integer.MAX_VALUE)) {
            Edges.refused(c, Edges.INDEX, States::some, x -> call.call(x, true, number));
        }
        for (boolean isHole : new boolean[] {false, true}) {
            c.same("answer", isTaken(() -> call.call(States.full(), isHole, 4)), "taken");
            Edges.refused(c, Edges.INDEX, States::full, x -> call.call(x, isHole, 5));
        }
    }

    private static void alterBoth(Check c) {
        Edges.refused(c, Edges.INDEX, States::nothing, x -> x.alter(false, 0, -1, 1));
        Edges.refused(c, Edges.INDEX, States::nothing, x -> x.alter(true, 0, 0, 21));
        Edges.refused(c, Edges.INDEX, States::some, x -> x.alter(false, 3, 101, 1));
        Edges.refused(c, Edges.INDEX, States::some, x -> x.alter(true, 2, 0, 0));
        Edges.refused(c, Edges.ARGUMENT, States::some, x -> x.alter(false, 2, 101, 1));
        Edges.refused(c, Edges.ARGUMENT, States::some, x -> x.alter(true, 1, 0, 0));
    }

    private static void wayBeforeArgument(Check c, WayCall call) {
        Edges.refused(c, Edges.INDEX, States::nothing, x -> call.call(x, 0, 0));
        Edges.refused(c, Edges.INDEX, States::some, x -> call.call(x, 3, 0));
        Edges.refused(c, Edges.INDEX, States::some, x -> call.call(x, 0, 2));
        Edges.refused(c, Edges.INDEX, States::some, x -> call.call(x, -1, -1));
        Edges.refused(c, Edges.ARGUMENT, States::some, x -> call.call(x, 2, 1));
    }

    private static void aboutBoth(Check c) {
        Edges.refused(c, Edges.INDEX, States::nothing, x -> x.about(true, 0, 3));
        Edges.refused(c, Edges.INDEX, States::some, x -> x.about(false, 3, -1));
        Edges.refused(c, Edges.INDEX, States::some, x -> x.about(true, 2, 3));
        Edges.refused(c, Edges.ARGUMENT, States::some, x -> x.about(false, 2, 3));
        Edges.refused(c, Edges.ARGUMENT, States::some, x -> x.about(true, 1, -1));
    }
}
