import java.util.Map;
import java.util.function.Consumer;

/** For each promise: ordinary inputs, the edges that the document names, and wrong inputs. */
final class PromiseTests {
    private static final int NONE = Heapcarrier.NONE;
    private static final int LINE = Heapcarrier.LINE;
    private static final int SQUARE = Heapcarrier.SQUARE;
    private static final int RING = Heapcarrier.RING;

    static void addTo(Map<String, Consumer<Check>> tests) {
        tests.put("promise 1, a new object", PromiseTests::aNewObject);
        tests.put("promise 2, heap", PromiseTests::heap);
        tests.put("promise 3, hole", PromiseTests::hole);
        tests.put("promise 4, alter", PromiseTests::alter);
        tests.put("promise 5, measure", PromiseTests::measure);
        tests.put("promise 6, own", PromiseTests::own);
        tests.put("promise 7, cap", PromiseTests::cap);
        tests.put("promise 8, terms", PromiseTests::terms);
        tests.put("promise 9, unit", PromiseTests::unit);
        tests.put("promise 10, least", PromiseTests::least);
        tests.put("promise 11, leastAnew", PromiseTests::leastAnew);
        tests.put("promise 11, leastAnew at its limit", PromiseTests::leastAnewAtItsLimit);
        tests.put("promise 12, carried", PromiseTests::carried);
        tests.put("promise 12, carried with ties", PromiseTests::carriedWithTies);
        tests.put("promise 13, left", PromiseTests::left);
        tests.put("promise 14, without", PromiseTests::without);
        tests.put("promise 15, price", PromiseTests::price);
        tests.put("promise 15, price at the limits of amounts", PromiseTests::priceAtTheLimits);
        tests.put("promise 16, toll", PromiseTests::toll);
        tests.put("promise 17, proof", PromiseTests::proof);
        tests.put("promise 18, order on a line", PromiseTests::orderOnALine);
        tests.put("promise 18, order on a ring", PromiseTests::orderOnARing);
        tests.put("promise 18, no order", PromiseTests::noOrder);
        tests.put("promise 19, carry", PromiseTests::carry);
        tests.put("promise 20, take", PromiseTests::take);
        tests.put("promise 21, whyNot", PromiseTests::whyNot);
        tests.put("promise 22, handCost", PromiseTests::handCost);
        tests.put("promise 23, middle", PromiseTests::middle);
        tests.put("promise 24, about", PromiseTests::about);
        tests.put("promise 25, count", PromiseTests::count);
        tests.put("five by five, the calls", PromiseTests::fiveByFive);
        tests.put("five by five, the last way", PromiseTests::theLastWay);
        tests.put("what is told by hand stays", PromiseTests::handStays);
        tests.put("a call that throws changes nothing", PromiseTests::throwsChangeNothing);
    }

    /** Heaps and holes from rows of place, amount, place, amount, .. */
    static Heapcarrier of(int[] heaps, int[] holes) {
        Heapcarrier x = new Heapcarrier();
        for (int k = 0; k + 1 < heaps.length; k += 2) {
            x.heap(heaps[k], heaps[k + 1]);
        }
        for (int k = 0; k + 1 < holes.length; k += 2) {
            x.hole(holes[k], holes[k + 1]);
        }
        return x;
    }

    static int[] row(int... numbers) {
        return numbers;
    }

    private static void aNewObject(Check c) {
        Heapcarrier x = new Heapcarrier();
        c.is(0, () -> x.count(0));
        c.is(0, () -> x.count(1));
        c.is(LINE, () -> x.count(2));
        c.is(0, () -> x.count(3));
        c.is(1000, () -> x.count(4));
        c.is(1000, () -> x.count(5));
        c.is(0, () -> x.count(6));
        c.is(0, x::least);
        c.is(0, x::leastAnew);
        c.is(0, x::proof);
        c.is(0, x::order);
        c.is(0, x::take);
        c.is(0, x::whyNot);
        c.is(0, x::handCost);
        c.badState(x::middle);
        c.noSuch(() -> x.about(false, 0, 0));
        c.noSuch(() -> x.about(true, 0, 0));
    }

    private static void heap(Check c) {
        Heapcarrier x = new Heapcarrier();
        c.badArgument(() -> x.heap(-1, 1));
        c.badArgument(() -> x.heap(101, 1));
        c.badArgument(() -> x.heap(0, 0));
        c.badArgument(() -> x.heap(0, 21));
        c.badArgument(() -> x.heap(Integer.MIN_VALUE, Integer.MAX_VALUE));
        c.is(0, () -> x.heap(0, 1));
        c.is(1, () -> x.heap(100, 20));
        c.is(2, () -> x.heap(0, 1));
        c.is(3, () -> x.heap(7, 3));
        c.is(4, () -> x.heap(8, 4));
        c.badState(() -> x.heap(8, 4));
        c.badArgument(() -> x.heap(101, 4));
        c.badArgument(() -> x.heap(8, 0));
        c.is(5, () -> x.count(0));
        c.is(0, () -> x.count(1));
        c.is(100, () -> x.about(false, 1, 0));
        c.is(20, () -> x.about(false, 1, 1));
        c.is(8, () -> x.about(false, 4, 0));
        c.is(29000, x::least);
    }

    private static void hole(Check c) {
        Heapcarrier x = new Heapcarrier();
        c.badArgument(() -> x.hole(-1, 1));
        c.badArgument(() -> x.hole(101, 1));
        c.badArgument(() -> x.hole(0, 0));
        c.badArgument(() -> x.hole(0, 21));
        c.is(0, () -> x.hole(0, 1));
        c.is(1, () -> x.hole(100, 20));
        c.is(2, () -> x.hole(0, 1));
        c.is(3, () -> x.hole(7, 3));
        c.is(4, () -> x.hole(8, 4));
        c.badState(() -> x.hole(8, 4));
        c.badArgument(() -> x.hole(-1, 4));
        c.badArgument(() -> x.hole(8, 21));
        c.is(0, () -> x.count(0));
        c.is(5, () -> x.count(1));
        c.is(100, () -> x.about(true, 1, 0));
        c.is(20, () -> x.about(true, 1, 1));
        c.is(29000, x::least);
        c.is(0, () -> x.heap(100, 20));
        c.is(9000, x::least);
    }

    private static void alter(Check c) {
        Heapcarrier x = of(row(0, 3, 10, 4), row(4, 5));
        c.is(2000 + 12 + 12, x::least);
        c.is(3, () -> x.alter(false, 0, 100, 20));
        c.is(20, () -> x.alter(false, 0, 3, 1));
        c.is(5, () -> x.alter(true, 0, 10, 4));
        c.is(1000, x::least);
        c.is(3, () -> x.about(false, 0, 0));
        c.is(1, () -> x.about(false, 0, 1));
        c.is(10, () -> x.about(true, 0, 0));
        c.is(4, () -> x.about(true, 0, 1));
        c.noSuch(() -> x.alter(false, 2, 0, 1));
        c.noSuch(() -> x.alter(true, 1, 0, 1));
        c.noSuch(() -> x.alter(false, -1, 101, 0));
        c.noSuch(() -> x.alter(true, Integer.MIN_VALUE, 0, 1));
        c.badArgument(() -> x.alter(false, 1, -1, 1));
        c.badArgument(() -> x.alter(false, 1, 101, 1));
        c.badArgument(() -> x.alter(true, 0, 0, 0));
        c.badArgument(() -> x.alter(true, 0, 0, 21));
        c.is(1000, x::least);
    }

    private static void measure(Check c) {
        Heapcarrier x = of(row(0, 1), row(70, 1));
        c.is(LINE, () -> x.measure(SQUARE, -7));
        c.is(4900, () -> x.unit(0, 0));
        c.is(0, () -> x.count(3));
        c.is(SQUARE, () -> x.measure(RING, 100));
        c.is(30, () -> x.unit(0, 0));
        c.is(RING, () -> x.measure(RING, 1));
        c.is(0, () -> x.unit(0, 0));
        c.is(RING, () -> x.measure(RING, 200));
        c.is(70, () -> x.unit(0, 0));
        c.badArgument(() -> x.measure(RING, 0));
        c.badArgument(() -> x.measure(RING, 201));
        c.badArgument(() -> x.measure(RING, -1));
        c.badArgument(() -> x.measure(3, 10));
        c.badArgument(() -> x.measure(-1, 10));
        c.is(200, () -> x.count(3));
        c.is(RING, () -> x.count(2));
        c.is(RING, () -> x.measure(LINE, Integer.MAX_VALUE));
        c.is(LINE, () -> x.measure(LINE, 0));
        c.is(200, () -> x.count(3));
        x.measure(RING, 60);
        c.is(10, x::least);
        x.measure(LINE, 0);
        c.is(70, () -> x.unit(0, 0));
        c.is(70, x::least);
        x.measure(SQUARE, 1);
        c.is(2000, x::least);
    }

    private static void own(Check c) {
        Heapcarrier x = of(row(0, 2, 50, 2), row(10, 2, 60, 2));
        c.is(NONE, () -> x.own(0, 1, 0));
        c.is(0, () -> x.unit(0, 1));
        c.is(40, x::least);
        c.is(NONE, () -> x.own(0, 0, 61));
        c.is(80, x::least);
        c.is(61, () -> x.own(0, 0, NONE));
        c.is(0, () -> x.own(0, 1, 10000));
        c.is(10000, () -> x.own(0, 1, 10000));
        c.is(10000, () -> x.unit(0, 1));
        c.is(10000, () -> x.own(0, 1, NONE));
        c.is(60, () -> x.unit(0, 1));
        c.is(NONE, () -> x.own(0, 1, NONE));
        c.is(NONE, () -> x.own(1, 0, 7));
        c.is(NONE, () -> x.own(0, 1, NONE));
        c.is(7, () -> x.unit(1, 0));
        c.noSuch(() -> x.own(2, 0, 0));
        c.noSuch(() -> x.own(0, 2, 0));
        c.noSuch(() -> x.own(-1, 0, 10001));
        c.noSuch(() -> x.own(0, -1, -2));
        c.badArgument(() -> x.own(0, 0, 10001));
        c.badArgument(() -> x.own(0, 0, -2));
        c.is(10, () -> x.unit(0, 0));
    }

    private static void cap(Check c) {
        Heapcarrier x = of(row(0, 20), row(1, 20));
        c.is(20, x::least);
        c.is(NONE, () -> x.cap(0, 0, 20));
        c.is(20, x::least);
        c.is(20, () -> x.cap(0, 0, 3));
        c.is(3 + 34000, x::least);
        c.is(3, () -> x.cap(0, 0, 0));
        c.is(40000, x::least);
        c.is(0, () -> x.cap(0, 0, NONE));
        c.is(NONE, () -> x.cap(0, 0, NONE));
        c.is(20, x::least);
        c.noSuch(() -> x.cap(1, 0, 0));
        c.noSuch(() -> x.cap(0, 1, 21));
        c.noSuch(() -> x.cap(0, -1, -2));
        c.noSuch(() -> x.cap(-1, 0, 1));
        c.badArgument(() -> x.cap(0, 0, 21));
        c.badArgument(() -> x.cap(0, 0, -2));
        c.is(20, x::least);
    }

    private static void terms(Check c) {
        Heapcarrier x = of(row(0, 3), row(90, 5));
        c.is(1000, () -> x.terms(0, 10000));
        c.is(0, () -> x.count(4));
        c.is(10000, () -> x.count(5));
        c.is(270 + 20000, x::least);
        c.is(0, () -> x.terms(40, 49));
        c.is(3 * 40 + 5 * 49, x::least);
        c.is(40, () -> x.terms(10000, 0));
        c.is(270, x::least);
        c.badArgument(() -> x.terms(-1, 0));
        c.badArgument(() -> x.terms(10001, 0));
        c.badArgument(() -> x.terms(0, -1));
        c.badArgument(() -> x.terms(0, 10001));
        c.is(10000, () -> x.count(4));
        c.is(0, () -> x.count(5));
    }

    private static void unit(Check c) {
        Heapcarrier x = of(row(3, 1, 100, 1), row(0, 1, 28, 1));
        c.is(3, () -> x.unit(0, 0));
        c.is(25, () -> x.unit(0, 1));
        c.is(100, () -> x.unit(1, 0));
        c.is(72, () -> x.unit(1, 1));
        x.measure(SQUARE, 0);
        c.is(9, () -> x.unit(0, 0));
        c.is(625, () -> x.unit(0, 1));
        c.is(10000, () -> x.unit(1, 0));
        x.measure(RING, 10);
        c.is(3, () -> x.unit(0, 0));
        c.is(5, () -> x.unit(0, 1));
        c.is(0, () -> x.unit(1, 0));
        c.is(2, () -> x.unit(1, 1));
        x.measure(RING, 3);
        c.is(0, () -> x.unit(0, 0));
        c.is(1, () -> x.unit(0, 1));
        c.is(1, () -> x.unit(1, 0));
        x.own(1, 0, 77);
        c.is(77, () -> x.unit(1, 0));
        x.cap(1, 0, 0);
        c.is(77, () -> x.unit(1, 0));
        c.noSuch(() -> x.unit(2, 0));
        c.noSuch(() -> x.unit(0, 2));
        c.noSuch(() -> x.unit(-1, 0));
        c.noSuch(() -> x.unit(0, -1));
        c.noSuch(() -> x.unit(5, 5));
    }

    private static void least(Check c) {
        Heapcarrier x = of(row(0, 3, 10, 4), row(4, 5, 20, 2));
        c.is(44, x::least);
        x.terms(3, 2);
        c.is(32, x::least);
        // To carry the cheapest way first is not the best: the middle heap's unit must give way.
        Heapcarrier y = of(row(0, 1, 1, 1), row(0, 1, 1, 1));
        y.own(0, 0, 1);
        y.own(0, 1, 2);
        y.own(1, 0, 2);
        y.own(1, 1, 500);
        c.is(4, y::least);
        y.terms(0, 0);
        c.is(0, y::least);
        Heapcarrier z = of(row(0, 20, 0, 20, 0, 20, 0, 20, 0, 20), row(100, 20, 100, 20, 100, 20, 100, 20, 100, 20));
        z.measure(SQUARE, 0);
        z.terms(10000, 10000);
        c.is(1000000, z::least);
        z.terms(0, 10000);
        c.is(1000000, z::least);
        z.terms(0, 9999);
        c.is(999900, z::least);
    }

    private static void leastAnew(Check c) {
        Heapcarrier x = of(row(0, 3, 10, 4), row(4, 5, 20, 2));
        c.is(44, x::leastAnew);
        x.terms(3, 2);
        c.is(32, x::leastAnew);
        x.cap(1, 0, 0);
        c.is(x.least(), x::leastAnew);
        x.own(0, 1, 0);
        c.is(x.least(), x::leastAnew);
        // Trying must not disturb the least plan that is known already.
        c.is(2, () -> x.carried(0, 1));
        c.is(20000, of(row(3, 20), row())::leastAnew);
        c.is(7000, of(row(), row(3, 3, 4, 4))::leastAnew);
    }

    private static void leastAnewAtItsLimit(Check c) {
        // 20 * 20 * 10 * 5 is 20000 to the number; one more unit of a cap is too many.
        Heapcarrier x = of(row(0, 20, 50, 20), row(10, 20, 90, 20));
        x.cap(0, 0, 19);
        x.cap(0, 1, 19);
        x.cap(1, 0, 9);
        x.cap(1, 1, 4);
        c.is(x.least(), x::leastAnew);
        x.cap(1, 1, 5);
        c.badState(x::leastAnew);
        x.cap(1, 1, NONE);
        c.badState(x::leastAnew);
        x.cap(1, 1, 0);
        c.is(x.least(), x::leastAnew);
        // The product goes far beyond every int: 21 to the power of 25.
        Heapcarrier y = of(row(0, 20, 0, 20, 0, 20, 0, 20, 0, 20), row(1, 20, 1, 20, 1, 20, 1, 20, 1, 20));
        c.badState(y::leastAnew);
        // 2 to the power of 14 is below the limit, of 15 above: amounts of 1 on 14 and 15 ways.
        Heapcarrier z = of(row(0, 1, 9, 1, 20, 1), row(1, 1, 8, 1, 30, 1, 14, 1, 50, 1));
        c.badState(z::leastAnew);
        z.cap(2, 4, 0);
        c.is(z.least(), z::leastAnew);
        // A cap above both amounts does not count: 21 * 21 * 21 is 9261.
        Heapcarrier w = of(row(0, 20), row(1, 20, 2, 20, 3, 20));
        c.is(w.least(), w::leastAnew);
        // 5 * 5 * 5 * 5 * 2 * 2 * 2 * 2 * 2 is 20000 too, all are plans, and the very last one is the best.
        Heapcarrier u = of(row(0, 20, 0, 20, 0, 20), row(0, 20, 0, 20, 0, 20));
        for (int way = 0; way < 9; way++) {
            u.cap(way / 3, way % 3, way < 4 ? 4 : 1);
        }
        c.is(1000 * (120 - 2 * 21), u::leastAnew);
        Heapcarrier v = of(row(0, 1, 0, 1), row(1, 1, 2, 1));
        v.cap(0, 0, 20);
        v.cap(0, 1, 20);
        v.cap(1, 0, 20);
        v.cap(1, 1, 20);
        c.is(3, v::leastAnew);
    }

    private static void carried(Check c) {
        Heapcarrier x = of(row(0, 3, 10, 4), row(4, 5, 20, 2));
        c.is(3, () -> x.carried(0, 0));
        c.is(0, () -> x.carried(0, 1));
        c.is(2, () -> x.carried(1, 0));
        c.is(2, () -> x.carried(1, 1));
        x.cap(0, 0, 1);
        c.is(1, () -> x.carried(0, 0));
        c.is(2, () -> x.carried(0, 1));
        c.is(4, () -> x.carried(1, 0));
        c.is(0, () -> x.carried(1, 1));
        c.noSuch(() -> x.carried(2, 0));
        c.noSuch(() -> x.carried(0, 2));
        c.noSuch(() -> x.carried(-1, 0));
        c.noSuch(() -> x.carried(0, -1));
    }

    private static void carriedWithTies(Check c) {
        // On a line crossing or not is the same here, so the first way takes all it can.
        Heapcarrier x = of(row(0, 2, 0, 2), row(5, 2, 5, 2));
        c.is(2, () -> x.carried(0, 0));
        c.is(0, () -> x.carried(0, 1));
        c.is(0, () -> x.carried(1, 0));
        c.is(2, () -> x.carried(1, 1));
        // What costs just as much as to let it stay and lack is carried.
        Heapcarrier y = of(row(0, 3), row(30, 4));
        y.terms(10, 20);
        c.is(3, () -> y.carried(0, 0));
        y.terms(10, 19);
        c.is(0, () -> y.carried(0, 0));
        // The most on the first way goes before more units in all, if the cost is the same.
        Heapcarrier z = of(row(0, 1, 0, 1), row(0, 1, 0, 1));
        z.terms(5, 5);
        z.own(0, 0, 0);
        z.own(0, 1, 5);
        z.own(1, 0, 5);
        z.own(1, 1, 100);
        c.is(10, z::least);
        c.is(1, () -> z.carried(0, 0));
        c.is(1, () -> z.count(6));
        // Of two heaps with the same costs the first one is emptied, of two holes the first one filled.
        Heapcarrier w = of(row(9, 3, 9, 3), row(0, 2, 0, 2));
        c.is(2, () -> w.carried(0, 0));
        c.is(1, () -> w.carried(0, 1));
        c.is(0, () -> w.carried(1, 0));
        c.is(1, () -> w.carried(1, 1));
    }

    private static void left(Check c) {
        Heapcarrier x = of(row(0, 3, 10, 4), row(4, 5, 20, 9));
        c.is(0, () -> x.left(false, 0));
        c.is(0, () -> x.left(false, 1));
        c.is(0, () -> x.left(true, 0));
        c.is(7, () -> x.left(true, 1));
        x.cap(1, 0, 1);
        x.cap(1, 1, 1);
        c.is(2, () -> x.left(false, 1));
        c.is(1, () -> x.left(true, 0));
        c.is(8, () -> x.left(true, 1));
        c.noSuch(() -> x.left(false, 2));
        c.noSuch(() -> x.left(true, 2));
        c.noSuch(() -> x.left(false, -1));
        c.noSuch(() -> x.left(true, -1));
    }

    private static void without(Check c) {
        Heapcarrier x = of(row(5, 2, 5, 2), row(5, 2, 7, 2));
        // Another plan does as well, so to refuse a way that carries may cost nothing.
        c.is(2, () -> x.carried(0, 0));
        c.is(0, () -> x.without(0, 0));
        x.cap(0, 1, 0);
        c.is(3996, () -> x.without(0, 0));
        c.is(0, () -> x.without(0, 1));
        c.is(NONE, () -> x.cap(0, 0, 1));
        c.is(1, () -> x.cap(0, 0, NONE));
        c.is(2, () -> x.carried(0, 0));
        c.noSuch(() -> x.without(2, 0));
        c.noSuch(() -> x.without(0, 2));
        c.noSuch(() -> x.without(-1, 0));
        c.noSuch(() -> x.without(0, -1));
        Heapcarrier y = of(row(0, 3, 10, 4), row(4, 5, 20, 2));
        c.is(3988, () -> y.without(1, 0));
        c.is(44, y::least);
    }

    private static void price(Check c) {
        Heapcarrier x = of(row(0, 3, 10, 4), row(4, 5, 20, 2));
        c.is(998, () -> x.price(false, 0));
        c.is(1000, () -> x.price(false, 1));
        c.is(-994, () -> x.price(true, 0));
        c.is(-990, () -> x.price(true, 1));
        x.alter(true, 1, 20, 9);
        c.is(1000, () -> x.price(true, 1));
        c.noSuch(() -> x.price(false, 2));
        c.noSuch(() -> x.price(true, 2));
        c.noSuch(() -> x.price(false, -1));
        c.noSuch(() -> x.price(true, -1));
    }

    private static void priceAtTheLimits(Check c) {
        // 21 units of a heap, and a hole that wants none, are beyond what can be told.
        Heapcarrier x = of(row(0, 20), row(1, 20, 2, 1));
        c.is(-998, () -> x.price(false, 0));
        c.is(1000, () -> x.price(true, 1));
        c.is(999, () -> x.price(true, 0));
        Heapcarrier y = of(row(0, 20), row(3, 1));
        c.is(1000, () -> y.price(false, 0));
        c.is(3 - 1000, () -> y.price(true, 0));
        // A way without a cap has room for the unit more: 20 by the one, the 21st by the same.
        Heapcarrier z = of(row(0, 20, 9, 1), row(1, 20));
        c.is(1000, () -> z.price(false, 1));
        c.is(20, () -> z.carried(0, 0));
    }

    private static void toll(Check c) {
        Heapcarrier x = of(row(0, 3, 10, 4), row(4, 5, 20, 2));
        c.is(0, () -> x.toll(1, 0));
        x.cap(1, 0, 1);
        c.is(1994, () -> x.toll(1, 0));
        c.is(0, () -> x.toll(0, 0));
        x.cap(1, 0, 20);
        c.is(0, () -> x.toll(1, 0));
        x.cap(1, 0, 0);
        c.is(x.price(false, 1) + x.price(true, 0) - 6, () -> x.toll(1, 0));
        c.noSuch(() -> x.toll(2, 0));
        c.noSuch(() -> x.toll(0, 2));
        c.noSuch(() -> x.toll(-1, 0));
        c.noSuch(() -> x.toll(0, -1));
    }

    private static void proof(Check c) {
        Heapcarrier x = of(row(0, 3, 10, 4), row(4, 5, 20, 2));
        c.is(44, x::proof);
        x.cap(1, 0, 1);
        c.is(2038, x::proof);
        x.cap(1, 0, 0);
        c.is(x.least(), x::proof);
        x.terms(0, 0);
        c.is(0, x::proof);
        c.is(20000, of(row(100, 20), row())::proof);
        c.is(3000, of(row(), row(100, 3))::proof);
    }

    private static void orderOnALine(Check c) {
        Heapcarrier x = of(row(0, 3, 10, 4), row(4, 5, 20, 2));
        c.is(44, x::order);
        // The lost and the missing price do not matter here, though the least plan carries nothing.
        x.terms(0, 0);
        c.is(44, x::order);
        c.is(2000, of(row(100, 20), row(0, 20))::order);
        c.is(2000, of(row(0, 20), row(100, 20))::order);
        c.is(0, of(row(100, 7), row(100, 3, 100, 4))::order);
        c.is(100, of(row(50, 2), row(0, 1, 100, 1))::order);
        c.is(98, of(row(0, 1, 98, 1), row(49, 2))::order);
        // A ring that was told before does not count.
        Heapcarrier y = of(row(0, 1), row(30, 1));
        y.measure(RING, 20);
        y.measure(LINE, 0);
        c.is(30, y::order);
    }

    private static void orderOnARing(Check c) {
        Heapcarrier x = of(row(0, 3, 10, 4), row(4, 5, 20, 2));
        x.measure(RING, 12);
        c.is(28, x::order);
        x.measure(RING, 1);
        c.is(0, x::order);
        x.measure(RING, 200);
        c.is(44, x::order);
        Heapcarrier y = of(row(1, 20), row(99, 20));
        y.measure(RING, 100);
        c.is(40, y::order);
        y.measure(RING, 101);
        c.is(60, y::order);
        y.measure(RING, 98);
        c.is(0, y::order);
        Heapcarrier z = of(row(0, 1, 50, 1), row(25, 1, 75, 1));
        z.measure(RING, 100);
        c.is(50, z::order);
        // All 100 units go the other way round, so the best number to take off is the greatest one.
        Heapcarrier w = of(row(0, 20, 0, 20, 0, 20, 0, 20, 0, 20), row(99, 20, 99, 20, 99, 20, 99, 20, 99, 20));
        w.measure(RING, 100);
        c.is(100, w::order);
        Heapcarrier v = of(row(99, 20, 99, 20, 99, 20, 99, 20, 99, 20), row(0, 20, 0, 20, 0, 20, 0, 20, 0, 20));
        v.measure(RING, 100);
        c.is(100, v::order);
    }

    private static void noOrder(Check c) {
        Heapcarrier x = of(row(0, 3), row(4, 3));
        c.is(12, x::order);
        x.measure(SQUARE, 0);
        c.badState(x::order);
        x.measure(LINE, 0);
        // An own cost or a cap of no effect is in its way all the same.
        x.own(0, 0, 4);
        c.badState(x::order);
        x.own(0, 0, NONE);
        x.cap(0, 0, 20);
        c.badState(x::order);
        x.cap(0, 0, NONE);
        c.is(12, x::order);
        x.heap(4, 1);
        c.badState(x::order);
        x.hole(4, 1);
        c.is(12, x::order);
        x.alter(true, 1, 4, 2);
        c.badState(x::order);
        c.badState(of(row(), row(0, 1))::order);
        c.badState(of(row(0, 1), row())::order);
    }

    private static void carry(Check c) {
        Heapcarrier x = of(row(0, 3, 10, 4), row(4, 5, 20, 2));
        c.is(0, () -> x.carry(0, 0, 20));
        c.is(20, () -> x.carry(0, 0, 0));
        c.is(0, () -> x.carry(0, 0, 3));
        c.is(0, () -> x.carry(1, 0, 2));
        c.is(0, () -> x.carry(0, 1, 1));
        c.is(3, () -> x.carry(0, 0, 3));
        c.is(2, () -> x.carry(1, 0, 2));
        c.noSuch(() -> x.carry(2, 0, 0));
        c.noSuch(() -> x.carry(0, 2, 21));
        c.noSuch(() -> x.carry(-1, 0, -1));
        c.noSuch(() -> x.carry(0, -1, 0));
        c.badArgument(() -> x.carry(0, 0, 21));
        c.badArgument(() -> x.carry(0, 0, -1));
        c.is(3, () -> x.carry(0, 0, 0));
    }

    private static void take(Check c) {
        Heapcarrier x = of(row(0, 3, 10, 4), row(4, 5, 20, 2));
        c.is(3, x::take);
        c.is(0, x::take);
        x.carry(0, 1, 1);
        x.carry(0, 0, 2);
        c.is(2, x::take);
        c.is(0, () -> x.carry(0, 1, 0));
        c.is(3, () -> x.carry(0, 0, 3));
        x.cap(0, 0, 0);
        c.is(4, x::take);
        c.is(x.least(), x::handCost);
        c.is(0, x::whyNot);
    }

    private static void whyNot(Check c) {
        Heapcarrier x = of(row(0, 3, 10, 4), row(4, 5, 20, 2));
        c.is(4, x::whyNot);
        x.carry(0, 0, 3);
        x.carry(1, 0, 2);
        x.carry(1, 1, 2);
        c.is(0, x::whyNot);
        x.carry(1, 1, 3);
        c.is(1, x::whyNot);
        x.cap(1, 1, 2);
        c.is(1, x::whyNot);
        x.carry(1, 0, 1);
        c.is(2, x::whyNot);
        x.alter(true, 1, 20, 3);
        c.is(3, x::whyNot);
        x.cap(1, 1, 3);
        c.is(4, x::whyNot);
        // Another plan of the same cost is as good.
        Heapcarrier y = of(row(0, 2, 0, 2), row(5, 2, 5, 2));
        y.carry(0, 1, 2);
        y.carry(1, 0, 2);
        c.is(0, y::whyNot);
        Heapcarrier z = of(row(0, 2), row(5, 2));
        z.terms(0, 0);
        c.is(0, z::whyNot);
        Heapcarrier w = of(row(0, 9), row(5, 2, 5, 2));
        w.carry(0, 1, 3);
        c.is(2, w::whyNot);
        Heapcarrier v = of(row(0, 2, 0, 2), row(5, 9));
        v.carry(1, 0, 3);
        c.is(1, v::whyNot);
    }

    private static void handCost(Check c) {
        Heapcarrier x = of(row(0, 3, 10, 4), row(4, 5, 20, 2));
        x.terms(100, 1);
        c.is(707, x::handCost);
        x.carry(0, 1, 2);
        c.is(40 + 500 + 5, x::handCost);
        x.carry(0, 0, 2);
        c.badState(x::handCost);
        x.carry(0, 0, 1);
        c.is(44 + 400 + 4, x::handCost);
        x.carry(1, 1, 1);
        c.badState(x::handCost);
        x.carry(1, 1, 0);
        x.cap(0, 1, 1);
        c.badState(x::handCost);
        x.cap(0, 1, 2);
        c.is(448, x::handCost);
        x.own(0, 1, 5);
        c.is(418, x::handCost);
    }

    private static void middle(Check c) {
        Heapcarrier x = new Heapcarrier();
        c.badState(x::middle);
        x.hole(40, 20);
        c.badState(x::middle);
        x.heap(10, 3);
        c.is(10, x::middle);
        x.heap(90, 3);
        c.is(10, x::middle);
        x.alter(false, 1, 90, 4);
        c.is(90, x::middle);
        x.measure(SQUARE, 0);
        c.is(56, x::middle);
        x.alter(false, 1, 90, 3);
        c.is(50, x::middle);
        x.alter(false, 1, 11, 3);
        c.is(10, x::middle);
        x.measure(RING, 7);
        c.is(3, x::middle);
        x.own(0, 0, 0);
        x.cap(0, 0, 0);
        c.is(3, x::middle);
        c.is(100, of(row(100, 1), row())::middle);
        c.is(0, of(row(0, 20), row())::middle);
    }

    private static void about(Check c) {
        Heapcarrier x = of(row(0, 3, 10, 4), row(4, 5, 20, 2, 30, 1));
        x.carry(0, 0, 20);
        x.carry(0, 2, 20);
        x.carry(1, 0, 1);
        c.is(0, () -> x.about(false, 0, 0));
        c.is(10, () -> x.about(false, 1, 0));
        c.is(4, () -> x.about(false, 1, 1));
        c.is(40, () -> x.about(false, 0, 2));
        c.is(1, () -> x.about(false, 1, 2));
        c.is(4, () -> x.about(true, 0, 0));
        c.is(5, () -> x.about(true, 0, 1));
        c.is(21, () -> x.about(true, 0, 2));
        c.is(0, () -> x.about(true, 1, 2));
        c.is(20, () -> x.about(true, 2, 2));
        c.noSuch(() -> x.about(false, 2, 0));
        c.noSuch(() -> x.about(true, 3, 3));
        c.noSuch(() -> x.about(true, -1, -1));
        c.badArgument(() -> x.about(false, 0, 3));
        c.badArgument(() -> x.about(true, 0, -1));
    }

    private static void count(Check c) {
        Heapcarrier x = of(row(0, 3, 10, 4, 20, 20), row(4, 5, 20, 2));
        x.terms(12, 34);
        x.measure(RING, 55);
        x.measure(SQUARE, 66);
        c.is(3, () -> x.count(0));
        c.is(2, () -> x.count(1));
        c.is(SQUARE, () -> x.count(2));
        c.is(55, () -> x.count(3));
        c.is(12, () -> x.count(4));
        c.is(34, () -> x.count(5));
        c.is(7, () -> x.count(6));
        x.terms(0, 0);
        c.is(2, () -> x.count(6));
        c.badArgument(() -> x.count(-1));
        c.badArgument(() -> x.count(7));
        c.badArgument(() -> x.count(Integer.MAX_VALUE));
    }

    /** Each heap k of k + 1 units has a hole beside it that wants as many. */
    private static Heapcarrier fiveAndFive() {
        return of(row(0, 1, 10, 2, 20, 3, 30, 4, 40, 5), row(1, 1, 11, 2, 21, 3, 31, 4, 41, 5));
    }

    private static void fiveByFive(Check c) {
        Heapcarrier x = fiveAndFive();
        c.is(15, x::least);
        c.is(15, x::order);
        c.is(15, x::proof);
        c.badState(x::leastAnew);
        c.is(5, x::take);
        c.is(0, x::whyNot);
        c.is(15, x::handCost);
        c.is(30, x::middle);
        for (int k = 0; k < 5; k++) {
            int number = k;
            c.is(k + 1, () -> x.carried(number, number));
            c.is(0, () -> x.carried(number, (number + 1) % 5));
            c.is(1000, () -> x.price(false, number));
            c.is(-999, () -> x.price(true, number));
            c.is(k + 1, () -> x.about(false, number, 2));
            c.is(k + 1, () -> x.about(true, number, 2));
            c.is(0, () -> x.left(false, number));
            c.is(0, () -> x.left(true, number));
        }
        for (int way = 0; way < 25; way++) {
            if (way / 5 != way % 5) {
                x.cap(way / 5, way % 5, 0);
            }
        }
        // 2 * 3 * 4 * 5 * 6 is 720.
        c.is(15, x::leastAnew);
        c.is(15, x::proof);
        c.is(2000 * 5 - 5, () -> x.without(4, 4));
    }

    private static void theLastWay(Check c) {
        Heapcarrier x = fiveAndFive();
        x.own(4, 4, 1);
        c.badState(x::order);
        x.own(4, 4, NONE);
        x.cap(4, 4, 5);
        c.badState(x::order);
        c.is(0, () -> x.toll(4, 4));
        x.cap(4, 4, 4);
        c.is(15 + 18, x::least);
        c.is(4, () -> x.carried(4, 4));
        c.is(1, () -> x.carried(3, 4));
        c.is(1, () -> x.carried(4, 3));
        c.is(18, () -> x.toll(4, 4));
        c.is(33, x::proof);
        x.carry(4, 4, 5);
        c.is(3, x::whyNot);
        c.badState(x::handCost);
        c.is(7, x::take);
        c.is(4, () -> x.carry(4, 4, 4));
        x.carry(4, 4, 20);
        c.is(1, x::whyNot);
        x.carry(4, 4, 0);
        x.carry(0, 4, 1);
        x.carry(1, 4, 2);
        x.carry(2, 4, 3);
        x.carry(0, 0, 0);
        x.carry(1, 1, 0);
        x.carry(2, 2, 0);
        c.is(2, x::whyNot);
    }

    private static void handStays(Check c) {
        Heapcarrier x = of(row(0, 3), row(4, 5));
        x.carry(0, 0, 3);
        x.alter(false, 0, 50, 1);
        x.alter(true, 0, 60, 1);
        x.measure(SQUARE, 0);
        x.own(0, 0, 9);
        x.cap(0, 0, 0);
        x.terms(0, 0);
        x.heap(1, 1);
        x.hole(1, 1);
        c.is(3, () -> x.about(false, 0, 2));
        c.is(0, () -> x.about(false, 1, 2));
        c.is(3, () -> x.carry(0, 0, 3));
    }

    private static void throwsChangeNothing(Check c) {
        Heapcarrier x = of(row(0, 3, 10, 4), row(4, 5, 20, 2));
        x.measure(RING, 30);
        c.badArgument(() -> x.alter(false, 0, 5, 0));
        c.badArgument(() -> x.alter(false, 0, 101, 5));
        c.badArgument(() -> x.heap(5, 0));
        c.badArgument(() -> x.hole(-5, 1));
        c.badArgument(() -> x.measure(RING, 500));
        c.badArgument(() -> x.measure(5, 20));
        c.badArgument(() -> x.own(0, 0, 10001));
        c.badArgument(() -> x.cap(0, 0, 21));
        c.badArgument(() -> x.terms(5, 10001));
        c.badArgument(() -> x.carry(0, 0, 21));
        c.is(0, () -> x.about(false, 0, 0));
        c.is(3, () -> x.about(false, 0, 1));
        c.is(0, () -> x.about(false, 0, 2));
        c.is(2, () -> x.count(0));
        c.is(2, () -> x.count(1));
        c.is(RING, () -> x.count(2));
        c.is(30, () -> x.count(3));
        c.is(1000, () -> x.count(4));
        c.is(1000, () -> x.count(5));
        c.is(NONE, () -> x.own(0, 0, NONE));
        c.is(NONE, () -> x.cap(0, 0, NONE));
    }
}
