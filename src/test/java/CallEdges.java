import java.util.LinkedHashMap;
import java.util.Map;
import java.util.function.Consumer;
import java.util.function.ToIntFunction;

/** What holds for calls of all kinds: questions change nothing, objects are apart, the last call counts too. */
final class CallEdges {
    static void addTo(Map<String, Consumer<Check>> tests) {
        tests.put("a new object answers as the document says", CallEdges::aNewObject);
        tests.put("questions change nothing", CallEdges::questionsChangeNothing);
        tests.put("the length of the ring told last: 0 if none was", CallEdges::lastLength);
        tests.put("units that the least plan carries: 0 to 100", CallEdges::unitsCarried);
        tests.put("the 512th call is answered as the first", CallEdges::lastCall);
        tests.put("of each kind of call, the 512th is answered as the one before", CallEdges::lastCallOfEachKind);
        tests.put("a refused call in between, over and over", CallEdges::refusedInBetween);
        tests.put("objects know nothing of one another", CallEdges::objectsAreApart);
    }

    private static void aNewObject(Check c) {
        c.same("a new object's answers", States.answers(new Heapcarrier()),
                "count0=0 count1=0 count2=0 count3=0 count4=1000 count5=1000 count6=0 least=0 leastAnew=0 "
                + "proof=0 order=0 whyNot=0 handCost=0 middle=throws.IllegalStateException ");
    }

    private static void questionsChangeNothing(Check c) {
        Heapcarrier x = States.some();
        c.same("answers asked again", States.answers(x), States.answers(x));
        c.same("all asked after that", States.everything(x), States.everything(States.some()));
        Heapcarrier y = States.full();
        c.same("answers asked again", States.answers(y), States.answers(States.full()));
        c.same("all asked after that", States.everything(y), States.everything(States.full()));
    }

    private static void lastLength(Check c) {
        Heapcarrier x = new Heapcarrier();
        c.is(0, () -> x.count(3));
        x.measure(Heapcarrier.LINE, 50);
        x.measure(Heapcarrier.SQUARE, 60);
        c.is(0, () -> x.count(3));
        c.badArgument(() -> x.measure(Heapcarrier.RING, 201));
        c.is(0, () -> x.count(3));
        x.measure(Heapcarrier.RING, 1);
        c.is(1, () -> x.count(3));
        c.badArgument(() -> x.measure(Heapcarrier.RING, 0));
        c.badArgument(() -> x.measure(3, 9));
        c.is(1, () -> x.count(3));
        x.measure(Heapcarrier.RING, 200);
        c.is(200, () -> x.count(3));
        x.measure(Heapcarrier.LINE, 70);
        c.is(200, () -> x.count(3));
        x.measure(Heapcarrier.SQUARE, 80);
        c.is(200, () -> x.count(3));
    }

    private static void unitsCarried(Check c) {
        Heapcarrier x = new Heapcarrier();
        c.is(0, () -> x.count(6));
        for (int k = 0; k < 5; k++) {
            int units = 20 * k + 20;
            x.heap(0, 20);
            c.is(units - 20, () -> x.count(6));
            x.hole(0, 20);
            c.is(units, () -> x.count(6));
        }
        x.terms(0, 0);
        c.is(100, () -> x.count(6));
        x.measure(Heapcarrier.SQUARE, 0);
        x.alter(false, 4, 1, 20);
        c.is(80, () -> x.count(6));
    }

    private static void lastCall(Check c) {
        Heapcarrier x = PromiseTests.of(PromiseTests.row(0, 3, 10, 4), PromiseTests.row(4, 5, 20, 2));
        for (int call = 5; call < 512; call++) {
            int units = call % 21;
            c.is(call == 5 ? 0 : (call - 1) % 21, () -> x.carry(1, 1, units));
        }
        // 4 calls made it, 507 carried; the last one is a question for which all must be known.
        c.is(44, x::proof);
    }

    private static Map<String, ToIntFunction<Heapcarrier>> telling() {
        Map<String, ToIntFunction<Heapcarrier>> kinds = new LinkedHashMap<>();
        kinds.put("heap, refused", x -> x.heap(101, 1));
        kinds.put("hole, refused", x -> x.hole(1, 21));
        kinds.put("alter", x -> x.alter(true, 1, 9, 8));
        kinds.put("measure", x -> x.measure(Heapcarrier.RING, 31));
        kinds.put("own", x -> x.own(2, 1, 11));
        kinds.put("cap", x -> x.cap(2, 1, 12));
        kinds.put("terms", x -> x.terms(13, 14));
        kinds.put("carry", x -> x.carry(2, 1, 15));
        kinds.put("take", Heapcarrier::take);
        return kinds;
    }

    private static Map<String, ToIntFunction<Heapcarrier>> asking() {
        Map<String, ToIntFunction<Heapcarrier>> kinds = new LinkedHashMap<>();
        kinds.put("unit", x -> x.unit(1, 1));
        kinds.put("least", Heapcarrier::least);
        kinds.put("leastAnew", Heapcarrier::leastAnew);
        kinds.put("carried", x -> x.carried(1, 1));
        kinds.put("left", x -> x.left(false, 1));
        kinds.put("without", x -> x.without(1, 0));
        kinds.put("price", x -> x.price(true, 1));
        kinds.put("toll", x -> x.toll(1, 0));
        kinds.put("proof", Heapcarrier::proof);
        kinds.put("order, refused", Heapcarrier::order);
        kinds.put("whyNot", Heapcarrier::whyNot);
        kinds.put("handCost", Heapcarrier::handCost);
        kinds.put("middle", Heapcarrier::middle);
        kinds.put("about", x -> x.about(true, 1, 2));
        kinds.put("count", x -> x.count(6));
        return kinds;
    }

    private static void lastCallOfEachKind(Check c) {
        Map<String, ToIntFunction<Heapcarrier>> kinds = telling();
        kinds.putAll(asking());
        kinds.forEach((kind, call) -> {
            // 11 calls make the object; what is told once more answers what was told just before.
            Heapcarrier x = States.some();
            String first = Check.answer(() -> call.applyAsInt(x));
            String due = Check.answer(() -> call.applyAsInt(x));
            c.holds(kind + " is a question, or tells something else", telling().containsKey(kind) || first.equals(due));
            for (int n = 14; n <= 512; n++) {
                c.same(kind + ", call " + n, Check.answer(() -> call.applyAsInt(x)), due);
            }
        });
        // By order, 4 calls make the object.
        Heapcarrier y = PromiseTests.of(PromiseTests.row(0, 3, 10, 4), PromiseTests.row(4, 5, 20, 2));
        for (int n = 5; n <= 512; n++) {
            c.is(44, y::order);
        }
    }

    private static void refusedInBetween(Check c) {
        Heapcarrier x = States.some();
        int least = x.least();
        for (int k = 0; k < 60; k++) {
            c.noSuch(() -> x.own(3, 0, 0));
            c.badArgument(() -> x.alter(false, 0, 0, 21));
            c.badState(x::order);
            c.is(least, x::least);
            c.is(least, x::proof);
        }
        c.same("all asked after that", States.everything(x), States.everything(States.some()));
    }

    private static void objectsAreApart(Check c) {
        Heapcarrier x = States.some();
        Heapcarrier y = States.full();
        Heapcarrier z = States.nothing();
        y.take();
        y.measure(Heapcarrier.RING, 9);
        z.heap(1, 1);
        z.hole(1, 1);
        z.take();
        c.same("all asked of the first", States.everything(x), States.everything(States.some()));
        c.is(0, z::least);
        c.is(Heapcarrier.NONE, () -> z.own(0, 0, 1));
    }
}
