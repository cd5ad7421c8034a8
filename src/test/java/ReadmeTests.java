import java.util.Map;
import java.util.function.Consumer;

/** The example of README.md, call by call; it and the one there are to be changed together. */
final class ReadmeTests {
    static void addTo(Map<String, Consumer<Check>> tests) {
        tests.put("README.md's example answers as it says", ReadmeTests::example);
    }

    private static void example(Check c) {
        Heapcarrier x = new Heapcarrier();
        c.is(0, () -> x.heap(0, 3));
        c.is(1, () -> x.heap(10, 4));
        c.is(0, () -> x.hole(4, 5));
        c.is(1, () -> x.hole(20, 2));
        c.is(44, () -> x.least());
        c.is(2, () -> x.carried(1, 0));
        c.is(-1, () -> x.cap(1, 0, 1));
        c.is(2038, () -> x.least());
        c.is(1, () -> x.left(true, 0));
        c.is(-996, () -> x.price(false, 0));
        c.is(1994, () -> x.toll(1, 0));
        c.is(2038, () -> x.proof());
        c.is(0, () -> x.carry(0, 0, 3));
        c.is(4, () -> x.whyNot());
        c.is(8012, () -> x.handCost());
        c.is(2, () -> x.take());
        c.is(0, () -> x.whyNot());
        c.is(1, () -> x.cap(1, 0, Heapcarrier.NONE));
        c.is(44, () -> x.order());
        c.is(0, () -> x.measure(Heapcarrier.RING, 12));
        c.is(28, () -> x.order());
        c.is(10, () -> x.middle());
    }
}
