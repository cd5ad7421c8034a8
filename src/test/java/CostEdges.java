import java.util.Map;
import java.util.function.Consumer;

/** The edges that the document names for what a unit costs, for caps, and for what stays and is lacking. */
final class CostEdges {
    private static final int NONE = Heapcarrier.NONE;
    private static final int LINE = Heapcarrier.LINE;
    private static final int SQUARE = Heapcarrier.SQUARE;
    private static final int RING = Heapcarrier.RING;

    static void addTo(Map<String, Consumer<Check>> tests) {
        tests.put("LINE: from the same place to the farthest, both ways", CostEdges::line);
        tests.put("LINE at first, before a measure was told", CostEdges::lineAtFirst);
        tests.put("SQUARE: from the same place to the farthest, both ways", CostEdges::square);
        tests.put("RING: the lesser way round", CostEdges::lesserWayRound);
        tests.put("RING: once and more often round", CostEdges::onceRound);
        tests.put("RING: lengths 1 and 200", CostEdges::shortestAndLongest);
        tests.put("own cost: 0 is one, 10000 is one", CostEdges::ownCostIsOne);
        tests.put("own cost: otherwise it goes by the measure of now", CostEdges::ownCostTakenBack);
        tests.put("own cost: of this way alone", CostEdges::ownCostOfOneWay);
        tests.put("cap: at most so many units, from 0 to 20", CostEdges::capIsTheMost);
        tests.put("cap: without one, as at first, there is no bound", CostEdges::noCap);
        tests.put("cap: with the cap 0 it is refused", CostEdges::capZero);
        tests.put("lost and missing price: 1000 at first", CostEdges::thousandAtFirst);
        tests.put("lost and missing price: 0", CostEdges::nothingLost);
        tests.put("lost and missing price: 10000, all that can stay and lack", CostEdges::allLost);
    }

    /** A heap with one unit and a hole that wants one. */
    private static Heapcarrier pair(int from, int to) {
        return PromiseTests.of(PromiseTests.row(from, 1), PromiseTests.row(to, 1));
    }

    private static void unitIs(Check c, int want, int from, int to, int measure, int length) {
        Heapcarrier x = pair(from, to);
        x.measure(measure, length);
        c.is(want, () -> x.unit(0, 0));
        Heapcarrier y = pair(to, from);
        y.measure(measure, length);
        c.is(want, () -> y.unit(0, 0));
        y.terms(10000, 10000);
        c.is(want, y::least);
    }

    private static void line(Check c) {
        unitIs(c, 0, 0, 0, LINE, 0);
        unitIs(c, 0, 100, 100, LINE, 0);
        unitIs(c, 1, 0, 1, LINE, 0);
        unitIs(c, 1, 99, 100, LINE, 0);
        unitIs(c, 99, 1, 100, LINE, 0);
        unitIs(c, 100, 0, 100, LINE, 0);
        // A ring's length does not bound a line.
        unitIs(c, 100, 0, 100, LINE, 50);
    }

    private static void lineAtFirst(Check c) {
        c.is(100, () -> pair(0, 100).unit(0, 0));
        c.is(100, () -> pair(100, 0).unit(0, 0));
        c.is(0, () -> pair(100, 100).unit(0, 0));
        c.is(LINE, () -> pair(0, 0).measure(RING, 1));
    }

    private static void square(Check c) {
        unitIs(c, 0, 0, 0, SQUARE, 0);
        unitIs(c, 0, 100, 100, SQUARE, 0);
        unitIs(c, 1, 0, 1, SQUARE, 0);
        unitIs(c, 4, 98, 100, SQUARE, 0);
        unitIs(c, 9801, 1, 100, SQUARE, 0);
        unitIs(c, 10000, 0, 100, SQUARE, 0);
    }

    private static void lesserWayRound(Check c) {
        unitIs(c, 49, 0, 49, RING, 100);
        unitIs(c, 50, 0, 50, RING, 100);
        unitIs(c, 49, 0, 51, RING, 100);
        unitIs(c, 1, 0, 99, RING, 100);
        // Of an odd length no place is just as far both ways.
        unitIs(c, 3, 0, 3, RING, 7);
        unitIs(c, 3, 0, 4, RING, 7);
        unitIs(c, 2, 20, 25, RING, 7);
        unitIs(c, 50, 0, 50, RING, 101);
        unitIs(c, 50, 0, 51, RING, 101);
        unitIs(c, 1, 0, 100, RING, 101);
    }

    private static void onceRound(Check c) {
        unitIs(c, 1, 0, 6, RING, 7);
        unitIs(c, 0, 0, 7, RING, 7);
        unitIs(c, 1, 0, 8, RING, 7);
        unitIs(c, 0, 1, 99, RING, 7);
        unitIs(c, 0, 0, 100, RING, 100);
        unitIs(c, 1, 0, 100, RING, 99);
        unitIs(c, 1, 0, 99, RING, 98);
        unitIs(c, 0, 0, 100, RING, 50);
        unitIs(c, 25, 0, 75, RING, 50);
        unitIs(c, 1, 0, 100, RING, 3);
    }

    private static void shortestAndLongest(Check c) {
        unitIs(c, 0, 5, 5, RING, 1);
        unitIs(c, 0, 0, 1, RING, 1);
        unitIs(c, 0, 0, 100, RING, 1);
        unitIs(c, 1, 0, 1, RING, 2);
        unitIs(c, 0, 0, 2, RING, 2);
        unitIs(c, 1, 0, 99, RING, 2);
        unitIs(c, 99, 0, 99, RING, 200);
        unitIs(c, 100, 0, 100, RING, 200);
        unitIs(c, 99, 0, 100, RING, 199);
        unitIs(c, 99, 0, 99, RING, 199);
    }

    private static void ownCostIsOne(Check c) {
        Heapcarrier x = pair(0, 100);
        x.own(0, 0, 0);
        c.is(0, () -> x.unit(0, 0));
        c.is(0, x::least);
        c.is(1, () -> x.carried(0, 0));
        c.is(0, () -> x.own(0, 0, 10000));
        c.is(10000, () -> x.unit(0, 0));
        // That is more than to let it stay and lack, at first.
        c.is(2000, x::least);
        c.is(0, () -> x.carried(0, 0));
        x.terms(10000, 10000);
        c.is(10000, x::least);
        c.is(1, () -> x.carried(0, 0));
    }

    private static void ownCostTakenBack(Check c) {
        Heapcarrier x = pair(0, 30);
        x.own(0, 0, 5);
        x.measure(SQUARE, 0);
        c.is(5, () -> x.unit(0, 0));
        c.is(5, () -> x.own(0, 0, NONE));
        c.is(900, () -> x.unit(0, 0));
        x.own(0, 0, 6);
        x.measure(RING, 40);
        x.alter(true, 0, 35, 1);
        c.is(6, () -> x.unit(0, 0));
        c.is(6, () -> x.own(0, 0, NONE));
        c.is(5, () -> x.unit(0, 0));
    }

    private static void ownCostOfOneWay(Check c) {
        Heapcarrier x = PromiseTests.of(PromiseTests.row(0, 1, 10, 1, 20, 1, 30, 1, 40, 1),
                PromiseTests.row(50, 1, 60, 1, 70, 1, 80, 1, 90, 1));
        x.own(0, 4, 1);
        x.own(4, 4, 2);
        x.own(4, 0, 3);
        c.is(1, () -> x.unit(0, 4));
        c.is(2, () -> x.unit(4, 4));
        c.is(3, () -> x.unit(4, 0));
        c.is(80, () -> x.unit(0, 3));
        c.is(40, () -> x.unit(1, 0));
        c.is(80, () -> x.unit(1, 4));
        c.is(60, () -> x.unit(3, 4));
        c.is(40, () -> x.unit(4, 3));
        c.is(50, () -> x.unit(0, 0));
    }

    private static Heapcarrier twentyAndTwenty() {
        return PromiseTests.of(PromiseTests.row(0, 20), PromiseTests.row(3, 20));
    }

    private static void capIsTheMost(Check c) {
        for (int cap = 0; cap <= 20; cap++) {
            int most = cap;
            Heapcarrier x = twentyAndTwenty();
            x.cap(0, 0, cap);
            c.is(most, () -> x.carried(0, 0));
            c.is(20 - most, () -> x.left(false, 0));
            c.is(20 - most, () -> x.left(true, 0));
            c.is(3 * most + 2000 * (20 - most), x::least);
            c.is(x.least(), x::leastAnew);
        }
    }

    private static void noCap(Check c) {
        Heapcarrier x = twentyAndTwenty();
        c.is(NONE, () -> x.cap(0, 0, NONE));
        c.is(20, () -> x.carried(0, 0));
        x.cap(0, 0, 1);
        c.is(1, () -> x.carried(0, 0));
        x.cap(0, 0, NONE);
        c.is(20, () -> x.carried(0, 0));
        // The heap's 21st unit, of which a price speaks, goes to the other hole, if that way lets it.
        Heapcarrier y = PromiseTests.of(PromiseTests.row(0, 20), PromiseTests.row(0, 20, 1, 20));
        c.is(1 - 1000, () -> y.price(false, 0));
        y.cap(0, 1, 0);
        c.is(1000, () -> y.price(false, 0));
        y.cap(0, 1, 1);
        c.is(1 - 1000, () -> y.price(false, 0));
    }

    private static void capZero(Check c) {
        Heapcarrier x = PromiseTests.of(PromiseTests.row(0, 2), PromiseTests.row(0, 2, 9, 2));
        x.cap(0, 0, 0);
        c.is(0, () -> x.carried(0, 0));
        c.is(2, () -> x.carried(0, 1));
        c.is(18 + 2000, x::least);
        c.is(0, () -> x.without(0, 0));
        c.is(0, () -> x.unit(0, 0));
        x.cap(0, 1, 0);
        c.is(0, () -> x.count(6));
        c.is(6000, x::least);
        c.is(6000, x::leastAnew);
        c.is(0, () -> x.cap(0, 0, 1));
        c.is(1, () -> x.carried(0, 0));
        c.is(4000, x::least);
    }

    private static void thousandAtFirst(Check c) {
        Heapcarrier x = new Heapcarrier();
        c.is(1000, () -> x.count(4));
        c.is(1000, () -> x.count(5));
        x.heap(0, 1);
        c.is(1000, x::least);
        x.hole(0, 3);
        c.is(2000, x::least);
        c.is(1000, () -> x.terms(1, 2));
        c.is(4, x::least);
    }

    private static void nothingLost(Check c) {
        Heapcarrier x = twentyAndTwenty();
        x.terms(0, 0);
        c.is(0, x::least);
        c.is(0, () -> x.count(6));
        // What costs nothing is carried all the same.
        x.own(0, 0, 0);
        c.is(0, x::least);
        c.is(20, () -> x.count(6));
        x.own(0, 0, 1);
        c.is(0, () -> x.count(6));
    }

    private static void allLost(Check c) {
        Heapcarrier x = PromiseTests.of(PromiseTests.row(0, 20, 0, 20, 0, 20, 0, 20, 0, 20),
                PromiseTests.row(0, 20, 0, 20, 0, 20, 0, 20, 0, 20));
        x.terms(10000, 10000);
        c.is(0, x::least);
        c.is(100, () -> x.count(6));
        for (int way = 0; way < 25; way++) {
            x.cap(way / 5, way % 5, 0);
        }
        c.is(2000000, x::least);
        c.is(2000000, x::leastAnew);
        c.is(2000000, x::proof);
        c.is(0, () -> x.count(6));
        for (int way = 0; way < 25; way++) {
            x.cap(way / 5, way % 5, NONE);
            x.own(way / 5, way % 5, 10000);
        }
        c.is(1000000, x::least);
        c.is(100, () -> x.count(6));
    }
}
