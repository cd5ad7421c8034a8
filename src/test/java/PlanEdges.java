import java.util.Map;
import java.util.function.Consumer;

/** The edges that the document names for the least plan and for prices. */
final class PlanEdges {
    private static final int NONE = Heapcarrier.NONE;

    static void addTo(Map<String, Consumer<Check>> tests) {
        tests.put("plan: nothing there, or one side alone", PlanEdges::oneSideAlone);
        tests.put("plan: no heap gives more than it has", PlanEdges::heapsGiveWhatTheyHave);
        tests.put("plan: no hole gets more than it wants", PlanEdges::holesGetWhatTheyWant);
        tests.put("plan: as many units as there can be", PlanEdges::hundredUnits);
        tests.put("plan: one unit can turn those of all other heaps", PlanEdges::oneTurnsAll);
        tests.put("ties: carried, if that costs just as much as to let it stay and lack", PlanEdges::justAsMuch);
        tests.put("ties: the most from heap 0 to hole 0", PlanEdges::firstWay);
        tests.put("ties: the last two ways", PlanEdges::lastWays);
        tests.put("ties: heap 0 to hole 1 goes before heap 1 to hole 0", PlanEdges::heapBeforeHole);
        tests.put("ties: heap by heap, and hole by hole in each", PlanEdges::heapByHeap);
        tests.put("ties: the least cost goes before all of them", PlanEdges::costBeforeTies);
        tests.put("leastAnew: 20000 ways to tell are tried, more are not", PlanEdges::mostToTry);
        tests.put("leastAnew: the least of both amounts and the cap", PlanEdges::leastOfThree);
        tests.put("leastAnew: what is refused leaves one number to tell", PlanEdges::refusedWaysCountOnce);
        tests.put("left: from nothing to all", PlanEdges::leftFromNothingToAll);
        tests.put("without: a way that is refused, unused, one of two as good, the only one", PlanEdges::without);
        tests.put("price: 1 unit more than 20", PlanEdges::oneMoreThanTwenty);
        tests.put("price: 1 unit fewer than 1", PlanEdges::oneFewerThanOne);
        tests.put("price: below 0 and 0", PlanEdges::priceBelowZero);
        tests.put("price: one side alone", PlanEdges::priceOfOneSide);
        tests.put("toll: 0 where the prices are not above", PlanEdges::tollFromZero);
        tests.put("toll: 0 of a way without a cap", PlanEdges::tollWithoutCap);
        tests.put("toll: of a way that is refused", PlanEdges::tollOfRefused);
        tests.put("toll: by the prices, not by what a greater cap would bring", PlanEdges::tollByPrices);
        tests.put("proof: is the least cost at every cap", PlanEdges::proofAtEveryCap);
        tests.put("proof: nothing there, or one side alone", PlanEdges::proofOfOneSide);
    }

    private static Heapcarrier of(int[] heaps, int[] holes) {
        return PromiseTests.of(heaps, holes);
    }

    private static int[] row(int... numbers) {
        return PromiseTests.row(numbers);
    }

    private static void oneSideAlone(Check c) {
        Heapcarrier x = new Heapcarrier();
        c.is(0, x::least);
        c.is(0, x::leastAnew);
        c.is(0, () -> x.count(6));
        x.heap(0, 20);
        c.is(20000, x::least);
        c.is(20000, x::leastAnew);
        c.is(0, () -> x.count(6));
        c.is(20, () -> x.left(false, 0));
        Heapcarrier y = new Heapcarrier();
        y.hole(0, 20);
        c.is(20000, y::least);
        c.is(20000, y::leastAnew);
        c.is(0, () -> y.count(6));
        c.is(20, () -> y.left(true, 0));
        // The plan of before does not linger when the other side comes.
        y.heap(0, 20);
        c.is(0, y::least);
        c.is(20, () -> y.count(6));
        c.is(0, () -> y.left(true, 0));
    }

    private static void heapsGiveWhatTheyHave(Check c) {
        Heapcarrier x = of(row(0, 1), row(0, 20, 0, 20));
        c.is(1, () -> x.carried(0, 0));
        c.is(0, () -> x.carried(0, 1));
        c.is(0, () -> x.left(false, 0));
        c.is(19, () -> x.left(true, 0));
        c.is(20, () -> x.left(true, 1));
        x.alter(false, 0, 0, 20);
        c.is(20, () -> x.carried(0, 0));
        c.is(0, () -> x.carried(0, 1));
        c.is(20000, x::least);
    }

    private static void holesGetWhatTheyWant(Check c) {
        Heapcarrier x = of(row(0, 20, 0, 20), row(0, 1));
        c.is(1, () -> x.carried(0, 0));
        c.is(0, () -> x.carried(1, 0));
        c.is(0, () -> x.left(true, 0));
        c.is(19, () -> x.left(false, 0));
        c.is(20, () -> x.left(false, 1));
        x.alter(true, 0, 0, 20);
        c.is(20, () -> x.carried(0, 0));
        c.is(0, () -> x.carried(1, 0));
        c.is(20000, x::least);
    }

    private static void hundredUnits(Check c) {
        Heapcarrier x = of(row(0, 20, 0, 20, 0, 20, 0, 20, 0, 20), row(1, 20, 1, 20, 1, 20, 1, 20, 1, 20));
        c.is(100, x::least);
        c.is(100, () -> x.count(6));
        for (int way = 0; way < 25; way++) {
            int heap = way / 5;
            int hole = way % 5;
            c.is(heap == hole ? 20 : 0, () -> x.carried(heap, hole));
        }
        for (int way = 0; way < 25; way++) {
            x.cap(way / 5, way % 5, 4);
        }
        c.is(100, () -> x.count(6));
        for (int way = 0; way < 25; way++) {
            int heap = way / 5;
            int hole = way % 5;
            c.is(4, () -> x.carried(heap, hole));
        }
        x.cap(4, 4, 3);
        c.is(99, () -> x.count(6));
        c.is(99 + 2000, x::least);
    }

    /** The last heap has but the last hole, which is the cheapest of the heap before, and so on to the first ones. */
    private static void oneTurnsAll(Check c) {
        Heapcarrier x = of(row(0, 1, 0, 1, 0, 1, 0, 1, 0, 1), row(0, 1, 0, 1, 0, 1, 0, 1, 0, 1));
        for (int way = 0; way < 25; way++) {
            int heap = way / 5;
            int hole = way % 5;
            x.cap(heap, hole, hole == heap || hole == heap + 1 ? NONE : 0);
            x.own(heap, hole, hole == heap ? 100 : NONE);
        }
        c.is(500, x::least);
        c.is(500, x::leastAnew);
        for (int k = 0; k < 5; k++) {
            int number = k;
            c.is(1, () -> x.carried(number, number));
        }
        c.is(1500, () -> x.without(4, 4));
        c.is(1500, () -> x.without(0, 0));
        x.cap(0, 0, 0);
        c.is(2000, x::least);
        for (int k = 0; k < 4; k++) {
            int number = k;
            c.is(1, () -> x.carried(number, number + 1));
        }
        c.is(1, () -> x.left(false, 4));
        c.is(1, () -> x.left(true, 0));
    }

    private static void justAsMuch(Check c) {
        Heapcarrier x = of(row(0, 3), row(100, 3));
        int[][] terms = {{50, 50}, {100, 0}, {0, 100}, {50, 51}, {51, 50}};
        for (int[] both : terms) {
            x.terms(both[0], both[1]);
            c.is(3, () -> x.carried(0, 0));
            c.is(300, x::least);
            c.is(0, () -> x.left(false, 0));
        }
        int[][] cheaper = {{50, 49}, {49, 50}, {99, 0}, {0, 99}};
        for (int[] both : cheaper) {
            x.terms(both[0], both[1]);
            c.is(0, () -> x.carried(0, 0));
            c.is(297, x::least);
            c.is(3, () -> x.left(false, 0));
            c.is(3, () -> x.left(true, 0));
        }
        x.terms(0, 0);
        c.is(0, () -> x.carried(0, 0));
        x.own(0, 0, 0);
        c.is(3, () -> x.carried(0, 0));
    }

    private static void firstWay(Check c) {
        Heapcarrier x = of(row(0, 1, 0, 3), row(0, 2, 0, 2));
        c.is(1, () -> x.carried(0, 0));
        c.is(0, () -> x.carried(0, 1));
        c.is(1, () -> x.carried(1, 0));
        c.is(2, () -> x.carried(1, 1));
        x.cap(0, 0, 0);
        c.is(1, () -> x.carried(0, 1));
        c.is(2, () -> x.carried(1, 0));
        c.is(1, () -> x.carried(1, 1));
    }

    /** 5 and 5, all at one place, where only the last heap's ways to the last two holes are open. */
    private static void lastWays(Check c) {
        Heapcarrier x = of(row(0, 1, 0, 1, 0, 1, 0, 1, 0, 1), row(0, 1, 0, 1, 0, 1, 0, 1, 0, 1));
        for (int way = 0; way < 23; way++) {
            x.cap(way / 5, way % 5, 0);
        }
        c.is(1, () -> x.carried(4, 3));
        c.is(0, () -> x.carried(4, 4));
        x.own(4, 3, 1);
        c.is(0, () -> x.carried(4, 3));
        c.is(1, () -> x.carried(4, 4));
        x.own(4, 4, 1);
        c.is(1, () -> x.carried(4, 3));
        // Between the last two heaps, for the last hole.
        x.cap(4, 3, 0);
        x.cap(3, 4, NONE);
        x.own(3, 4, 1);
        c.is(1, () -> x.carried(3, 4));
        c.is(0, () -> x.carried(4, 4));
    }

    /** Heap 2 fills the hole that the one of the first two heaps leaves, so these two ways stand against each other. */
    private static void heapBeforeHole(Check c) {
        Heapcarrier x = of(row(0, 1, 0, 1, 0, 1), row(0, 1, 0, 1));
        x.cap(0, 0, 0);
        x.cap(1, 1, 0);
        x.own(0, 1, 1);
        x.own(1, 0, 1);
        c.is(1001, x::least);
        c.is(1, () -> x.carried(0, 1));
        c.is(0, () -> x.carried(1, 0));
        c.is(1, () -> x.carried(2, 0));
        c.is(0, () -> x.carried(2, 1));
        x.own(0, 1, 2);
        c.is(0, () -> x.carried(0, 1));
        c.is(1, () -> x.carried(1, 0));
        c.is(0, () -> x.carried(2, 0));
        c.is(1, () -> x.carried(2, 1));
    }

    private static void heapByHeap(Check c) {
        // One unit on the way 0 1 costs as much as two on the ways 0 2 and 1 1: the earlier way goes first.
        Heapcarrier x = of(row(0, 1, 0, 1), row(0, 1, 0, 1, 0, 1));
        x.terms(5, 5);
        x.cap(0, 0, 0);
        x.cap(1, 0, 0);
        x.own(0, 1, 0);
        x.own(0, 2, 5);
        x.own(1, 1, 5);
        x.own(1, 2, 100);
        c.is(1, () -> x.carried(0, 1));
        c.is(0, () -> x.carried(0, 2));
        c.is(0, () -> x.carried(1, 1));
        // One unit on the way 0 2 goes before two of heap 1 in the same way.
        Heapcarrier y = of(row(0, 1, 0, 2), row(0, 1, 0, 1, 0, 1));
        y.cap(0, 0, 0);
        y.cap(0, 1, 0);
        c.is(1, () -> y.carried(0, 2));
        c.is(1, () -> y.carried(1, 0));
        c.is(1, () -> y.carried(1, 1));
        c.is(0, () -> y.carried(1, 2));
    }

    private static void costBeforeTies(Check c) {
        Heapcarrier x = of(row(0, 20), row(1, 20, 0, 20));
        c.is(0, () -> x.carried(0, 0));
        c.is(20, () -> x.carried(0, 1));
        x.own(0, 1, 1);
        c.is(20, () -> x.carried(0, 0));
        c.is(0, () -> x.carried(0, 1));
        x.own(0, 0, 10000);
        x.own(0, 1, 9999);
        x.terms(10000, 10000);
        c.is(20, () -> x.carried(0, 1));
        x.own(0, 1, 10000);
        c.is(20, () -> x.carried(0, 0));
    }

    private static Heapcarrier capped(int first, int second, int third, int fourth) {
        Heapcarrier x = of(row(0, 20, 30, 20), row(10, 20, 20, 20));
        x.cap(0, 0, first);
        x.cap(0, 1, second);
        x.cap(1, 0, third);
        x.cap(1, 1, fourth);
        return x;
    }

    private static void mostToTry(Check c) {
        Heapcarrier x = capped(19, 19, 9, 4);
        c.is(x.least(), x::leastAnew);
        // 9 * 9 * 13 * 19 is 20007, the next number above that can be at all.
        Edges.refused(c, Edges.STATE, () -> capped(8, 8, 12, 18), Heapcarrier::leastAnew);
        // Just below there are 20 * 20 * 7 * 7, which is 19600, and just one way more to tell is too many.
        Heapcarrier y = capped(19, 19, 6, 6);
        c.is(y.least(), y::leastAnew);
        y.cap(1, 1, 7);
        c.badState(y::leastAnew);
        y.cap(1, 1, 6);
        c.is(y.least(), y::leastAnew);
        Edges.refused(c, Edges.STATE, States::full, Heapcarrier::leastAnew);
    }

    private static void leastOfThree(Check c) {
        // 21 * 21 * 21 * 2 is 18522, with 3 for the 2 it is 27783: by the heap, by the hole, by the cap.
        Heapcarrier x = of(row(0, 20), row(1, 20, 2, 20, 3, 20, 4, 1));
        c.is(x.least(), x::leastAnew);
        x.alter(true, 3, 4, 2);
        c.badState(x::leastAnew);
        x.cap(0, 3, 1);
        c.is(x.least(), x::leastAnew);
        x.cap(0, 3, 2);
        c.badState(x::leastAnew);
        x.alter(true, 3, 4, 1);
        x.cap(0, 3, 20);
        c.is(x.least(), x::leastAnew);
        Heapcarrier y = of(row(0, 20, 0, 20, 0, 20, 0, 1), row(4, 20));
        c.is(y.least(), y::leastAnew);
        y.alter(false, 3, 0, 2);
        c.badState(y::leastAnew);
        y.cap(3, 0, 1);
        c.is(y.least(), y::leastAnew);
    }

    private static void refusedWaysCountOnce(Check c) {
        Heapcarrier x = of(row(0, 20, 0, 20, 0, 20, 0, 20, 0, 20), row(1, 20, 1, 20, 1, 20, 1, 20, 1, 20));
        for (int way = 0; way < 25; way++) {
            x.cap(way / 5, way % 5, 0);
        }
        c.is(200000, x::leastAnew);
        x.cap(0, 0, 20);
        x.cap(2, 2, 20);
        x.cap(4, 4, 20);
        c.is(60 + 80000, x::leastAnew);
        x.cap(3, 3, 1);
        c.is(61 + 78000, x::leastAnew);
        x.cap(3, 3, 2);
        c.badState(x::leastAnew);
        c.is(62 + 76000, x::least);
    }

    private static void leftFromNothingToAll(Check c) {
        Heapcarrier x = of(row(0, 20), row(0, 20));
        c.is(0, () -> x.left(false, 0));
        c.is(0, () -> x.left(true, 0));
        x.alter(true, 0, 0, 19);
        c.is(1, () -> x.left(false, 0));
        c.is(0, () -> x.left(true, 0));
        x.alter(true, 0, 0, 20);
        x.alter(false, 0, 0, 1);
        c.is(0, () -> x.left(false, 0));
        c.is(19, () -> x.left(true, 0));
        x.alter(false, 0, 0, 20);
        x.cap(0, 0, 0);
        c.is(20, () -> x.left(false, 0));
        c.is(20, () -> x.left(true, 0));
    }

    private static void without(Check c) {
        Heapcarrier x = of(row(0, 20), row(100, 20));
        c.is(20 * (2000 - 100), () -> x.without(0, 0));
        x.own(0, 0, 2000);
        c.is(20, () -> x.carried(0, 0));
        c.is(0, () -> x.without(0, 0));
        x.own(0, 0, 1999);
        c.is(20, () -> x.without(0, 0));
        x.cap(0, 0, 0);
        c.is(0, () -> x.without(0, 0));
        c.is(0, () -> x.cap(0, 0, 1));
        c.is(1, () -> x.without(0, 0));
        // It is as if refused, but it is not: later calls answer as before.
        c.is(1, () -> x.carried(0, 0));
        c.is(1, () -> x.cap(0, 0, NONE));
        Heapcarrier y = of(row(0, 5), row(7, 5, 7, 5));
        c.is(0, () -> y.without(0, 0));
        c.is(0, () -> y.without(0, 1));
        c.is(5, () -> y.carried(0, 0));
    }

    private static void oneMoreThanTwenty(Check c) {
        Heapcarrier x = of(row(0, 20), row(3, 20));
        c.is(1000, () -> x.price(false, 0));
        c.is(20, () -> x.about(false, 0, 1));
        x.hole(4, 20);
        c.is(4 - 1000, () -> x.price(false, 0));
        x.cap(0, 1, 0);
        c.is(1000, () -> x.price(false, 0));
        c.is(60 + 20000, x::least);
    }

    private static void oneFewerThanOne(Check c) {
        Heapcarrier x = of(row(0, 1), row(3, 1));
        c.is(3 - 1000, () -> x.price(true, 0));
        c.is(1, () -> x.about(true, 0, 1));
        c.is(1, () -> x.carried(0, 0));
        Heapcarrier y = of(row(), row(3, 1));
        c.is(1000, () -> y.price(true, 0));
        y.heap(0, 2);
        c.is(3 - 1000, () -> y.price(true, 0));
        y.cap(0, 0, 0);
        c.is(1000, () -> y.price(true, 0));
    }

    private static void priceBelowZero(Check c) {
        Heapcarrier x = of(row(0, 1), row(3, 5));
        x.terms(10000, 10000);
        x.own(0, 0, 0);
        c.is(-10000, () -> x.price(false, 0));
        c.is(10000, () -> x.price(true, 0));
        Heapcarrier y = of(row(0, 5), row(3, 1));
        y.terms(10000, 10000);
        y.own(0, 0, 0);
        c.is(10000, () -> y.price(false, 0));
        c.is(-10000, () -> y.price(true, 0));
        // A unit more brings just what it costs.
        x.own(0, 0, 10000);
        c.is(0, () -> x.price(false, 0));
        x.own(0, 0, 9999);
        c.is(-1, () -> x.price(false, 0));
        y.own(0, 0, 10000);
        c.is(0, () -> y.price(true, 0));
        y.own(0, 0, 9999);
        c.is(-1, () -> y.price(true, 0));
    }

    private static void priceOfOneSide(Check c) {
        for (int price : row(0, 1, 1000, 10000)) {
            Heapcarrier x = of(row(0, 20, 100, 1), row());
            x.terms(price, 7);
            c.is(price, () -> x.price(false, 0));
            c.is(price, () -> x.price(false, 1));
            Heapcarrier y = of(row(), row(0, 20, 100, 1));
            y.terms(7, price);
            c.is(price, () -> y.price(true, 0));
            c.is(price, () -> y.price(true, 1));
        }
    }

    private static void tollFromZero(Check c) {
        // One unit can be carried of two: both prices are 1000, so the toll is what is left of 2000.
        Heapcarrier x = of(row(0, 2), row(0, 2));
        x.cap(0, 0, 1);
        c.is(2000, () -> x.toll(0, 0));
        x.own(0, 0, 1999);
        c.is(1, () -> x.toll(0, 0));
        x.own(0, 0, 2000);
        c.is(0, () -> x.toll(0, 0));
        x.own(0, 0, 2001);
        c.is(0, () -> x.toll(0, 0));
        x.own(0, 0, 10000);
        c.is(0, () -> x.toll(0, 0));
        x.own(0, 0, NONE);
        x.cap(0, 0, 2);
        c.is(0, () -> x.toll(0, 0));
    }

    private static void tollWithoutCap(Check c) {
        Heapcarrier x = of(row(0, 2), row(0, 2));
        c.is(0, () -> x.toll(0, 0));
        x.cap(0, 0, 1);
        c.is(2000, () -> x.toll(0, 0));
        x.cap(0, 0, NONE);
        c.is(0, () -> x.toll(0, 0));
        x.own(0, 0, 10000);
        c.is(0, () -> x.toll(0, 0));
    }

    private static void tollOfRefused(Check c) {
        Heapcarrier x = of(row(0, 1), row(0, 1));
        x.cap(0, 0, 0);
        c.is(2000, () -> x.toll(0, 0));
        c.is(2000, x::proof);
        x.terms(10000, 10000);
        c.is(20000, () -> x.toll(0, 0));
        c.is(20000, x::proof);
        x.terms(0, 0);
        c.is(0, () -> x.toll(0, 0));
        c.is(0, x::proof);
    }

    private static void tollByPrices(Check c) {
        // The heap has no unit for a greater cap, yet one more would stay there, and one fewer lack.
        Heapcarrier x = of(row(0, 1), row(6, 2));
        x.cap(0, 0, 1);
        c.is(1000, () -> x.price(false, 0));
        c.is(1000, () -> x.price(true, 0));
        c.is(1994, () -> x.toll(0, 0));
        c.is(1006, x::least);
        c.is(1006, x::proof);
        x.cap(0, 0, 2);
        c.is(1006, x::least);
        c.is(6 - 1000, () -> x.price(false, 0));
        c.is(0, () -> x.toll(0, 0));
        // An own cost is what the unit costs.
        x.cap(0, 0, 1);
        x.own(0, 0, 90);
        c.is(1910, () -> x.toll(0, 0));
        c.is(1090, x::proof);
    }

    private static void proofAtEveryCap(Check c) {
        for (int cap = -1; cap <= 20; cap++) {
            int most = cap < 0 ? 20 : cap;
            Heapcarrier x = of(row(0, 20), row(3, 20));
            x.cap(0, 0, cap);
            c.is(3 * most + 2000 * (20 - most), x::proof);
            Heapcarrier y = States.some();
            y.cap(1, 0, cap);
            c.is(y.least(), y::proof);
        }
        Heapcarrier z = States.full();
        c.is(z.least(), z::proof);
    }

    private static void proofOfOneSide(Check c) {
        Heapcarrier x = new Heapcarrier();
        c.is(0, x::proof);
        x.heap(0, 1);
        c.is(1000, x::proof);
        for (int k = 0; k < 4; k++) {
            x.heap(0, 20);
        }
        c.is(81000, x::proof);
        Heapcarrier y = of(row(), row(0, 20, 1, 20, 2, 20, 3, 20, 4, 20));
        c.is(100000, y::proof);
    }
}
