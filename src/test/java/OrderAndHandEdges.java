import java.util.Map;
import java.util.function.Consumer;
import java.util.function.Supplier;

/** The edges that the document names for carrying by order, for plans by hand and for the middle. */
final class OrderAndHandEdges {
    private static final int NONE = Heapcarrier.NONE;
    private static final int LINE = Heapcarrier.LINE;
    private static final int SQUARE = Heapcarrier.SQUARE;
    private static final int RING = Heapcarrier.RING;

    static void addTo(Map<String, Consumer<Check>> tests) {
        tests.put("order: nothing there is carried for nothing", OrderAndHandEdges::nothingToOrder);
        tests.put("order: a place k of 0 to 99", OrderAndHandEdges::orderFromZeroToNinetyNine);
        tests.put("order: on a ring a place k of 0 to its length less 1", OrderAndHandEdges::orderOnRings);
        tests.put("order: a place counts as what is left of it by the length", OrderAndHandEdges::orderRoundTheRing);
        tests.put("order: whole numbers off each surplus, to both sides", OrderAndHandEdges::orderByBestCut);
        tests.put("order: not if the measure is SQUARE", OrderAndHandEdges::noOrderBySquare);
        tests.put("order: not with an own cost, be it of no effect", OrderAndHandEdges::noOrderWithOwn);
        tests.put("order: not with a cap, be it of no effect", OrderAndHandEdges::noOrderWithCap);
        tests.put("order: not with one unit more on either side", OrderAndHandEdges::noOrderWithOneMore);
        tests.put("order: whatever the lost and the missing price are", OrderAndHandEdges::orderWhateverTheTerms);
        tests.put("by hand: 0 for each at first, also for those told later", OrderAndHandEdges::handAtFirst);
        tests.put("by hand 1: a heap gives all it has, and one more", OrderAndHandEdges::heapGivesMore);
        tests.put("by hand 2: a hole gets all it wants, and one more", OrderAndHandEdges::holeGetsMore);
        tests.put("by hand 3: a way is full, and has one more", OrderAndHandEdges::wayHasMore);
        tests.put("by hand 4: the least cost, and one more", OrderAndHandEdges::costsMore);
        tests.put("by hand: the first of these", OrderAndHandEdges::firstOfThese);
        tests.put("by hand: what is told stays, whatever is changed", OrderAndHandEdges::handStays);
        tests.put("take: nothing there, nothing new, all 25 ways", OrderAndHandEdges::take);
        tests.put("handCost: nothing there, nothing by hand", OrderAndHandEdges::handCostOfNothing);
        tests.put("handCost: none by 1 to 3, but by 4", OrderAndHandEdges::handCostOfNoPlan);
        tests.put("middle: no heaps", OrderAndHandEdges::noMiddle);
        tests.put("middle: the places 0 and 100", OrderAndHandEdges::middleAtTheEnds);
        tests.put("middle: of several the least place", OrderAndHandEdges::leastMiddle);
        tests.put("middle: round a ring", OrderAndHandEdges::middleOnARing);
        tests.put("middle: own costs, caps and holes do not count", OrderAndHandEdges::middleOfHeapsAlone);
    }

    private static Heapcarrier of(int[] heaps, int[] holes) {
        return PromiseTests.of(heaps, holes);
    }

    private static int[] row(int... numbers) {
        return PromiseTests.row(numbers);
    }

    private static void nothingToOrder(Check c) {
        Heapcarrier x = new Heapcarrier();
        c.is(0, x::order);
        x.measure(RING, 1);
        c.is(0, x::order);
        x.measure(RING, 200);
        c.is(0, x::order);
        Edges.refused(c, Edges.STATE, () -> of(row(5, 1), row()), Heapcarrier::order);
        Edges.refused(c, Edges.STATE, () -> of(row(), row(5, 1)), Heapcarrier::order);
    }

    private static void orderIs(Check c, int want, int from, int to, int measure, int length) {
        Heapcarrier x = of(row(from, 2), row(to, 2));
        x.measure(measure, length);
        c.is(2 * want, x::order);
        Heapcarrier y = of(row(to, 2), row(from, 2));
        y.measure(measure, length);
        c.is(2 * want, y::order);
    }

    private static void orderFromZeroToNinetyNine(Check c) {
        orderIs(c, 100, 0, 100, LINE, 0);
        orderIs(c, 99, 1, 100, LINE, 0);
        orderIs(c, 1, 99, 100, LINE, 0);
        orderIs(c, 1, 98, 99, LINE, 0);
        orderIs(c, 1, 0, 1, LINE, 0);
        orderIs(c, 0, 0, 0, LINE, 0);
        orderIs(c, 0, 100, 100, LINE, 0);
        // All that there can be, from one end to the other.
        c.is(10000, of(row(0, 20, 0, 20, 0, 20, 0, 20, 0, 20),
                row(100, 20, 100, 20, 100, 20, 100, 20, 100, 20))::order);
    }

    private static void orderOnRings(Check c) {
        orderIs(c, 0, 0, 100, RING, 1);
        orderIs(c, 0, 3, 4, RING, 1);
        orderIs(c, 1, 0, 1, RING, 2);
        orderIs(c, 0, 0, 2, RING, 2);
        orderIs(c, 100, 0, 100, RING, 200);
        orderIs(c, 99, 0, 99, RING, 200);
        orderIs(c, 99, 0, 100, RING, 199);
        orderIs(c, 1, 0, 100, RING, 101);
        orderIs(c, 1, 99, 100, RING, 101);
    }

    private static void orderRoundTheRing(Check c) {
        orderIs(c, 0, 0, 100, RING, 100);
        orderIs(c, 1, 99, 100, RING, 100);
        orderIs(c, 1, 0, 99, RING, 100);
        orderIs(c, 1, 0, 100, RING, 99);
        orderIs(c, 1, 6, 7, RING, 7);
        orderIs(c, 0, 7, 14, RING, 7);
        orderIs(c, 3, 95, 7, RING, 7);
        // The place 100 is the same as the place 0, so the hole there is filled first.
        Heapcarrier x = of(row(0, 3), row(100, 1, 1, 2));
        x.measure(RING, 100);
        c.is(2, x::order);
    }

    private static void orderByBestCut(Check c) {
        // One unit each way: no number off is the best. All one way round: the units themselves are.
        Heapcarrier x = of(row(0, 1, 5, 1), row(1, 1, 4, 1));
        x.measure(RING, 10);
        c.is(2, x::order);
        Heapcarrier y = of(row(1, 20, 1, 20), row(9, 20, 9, 20));
        y.measure(RING, 10);
        c.is(80, y::order);
        Heapcarrier z = of(row(9, 20, 9, 20), row(1, 20, 1, 20));
        z.measure(RING, 10);
        c.is(80, z::order);
        // Between the least and the greatest surplus: 3 go one way round, 4 the other.
        Heapcarrier w = of(row(50, 7), row(0, 3, 99, 4));
        w.measure(RING, 100);
        c.is(3 * 50 + 4 * 49, w::order);
    }

    private static Heapcarrier orderly() {
        return of(row(0, 3, 10, 4), row(4, 5, 20, 2));
    }

    private static void noOrderBySquare(Check c) {
        Supplier<Heapcarrier> square = () -> {
            Heapcarrier x = orderly();
            x.measure(SQUARE, 50);
            return x;
        };
        Edges.refused(c, Edges.STATE, square, Heapcarrier::order);
        Heapcarrier x = square.get();
        c.badState(x::order);
        x.measure(LINE, 0);
        c.is(44, x::order);
        x.measure(SQUARE, 0);
        c.badState(x::order);
        x.measure(RING, 200);
        c.is(44, x::order);
        Heapcarrier y = new Heapcarrier();
        y.measure(SQUARE, 0);
        c.badState(y::order);
    }

    private static void noOrderWithOwn(Check c) {
        for (int way = 0; way < 4; way++) {
            int heap = way / 2;
            int hole = way % 2;
            Supplier<Heapcarrier> owned = () -> {
                Heapcarrier x = orderly();
                x.own(heap, hole, x.unit(heap, hole));
                return x;
            };
            Edges.refused(c, Edges.STATE, owned, Heapcarrier::order);
            Heapcarrier x = owned.get();
            x.own(heap, hole, NONE);
            c.is(44, x::order);
            x.own(heap, hole, 0);
            c.badState(x::order);
        }
    }

    private static void noOrderWithCap(Check c) {
        for (int way = 0; way < 4; way++) {
            int heap = way / 2;
            int hole = way % 2;
            Supplier<Heapcarrier> capped = () -> {
                Heapcarrier x = orderly();
                x.cap(heap, hole, 20);
                return x;
            };
            Edges.refused(c, Edges.STATE, capped, Heapcarrier::order);
            Heapcarrier x = capped.get();
            x.cap(heap, hole, 0);
            c.badState(x::order);
            x.cap(heap, hole, NONE);
            c.is(44, x::order);
        }
    }

    private static void noOrderWithOneMore(Check c) {
        Heapcarrier x = orderly();
        x.alter(false, 1, 10, 5);
        c.badState(x::order);
        x.alter(true, 1, 20, 3);
        c.is(54, x::order);
        x.alter(false, 1, 10, 4);
        c.badState(x::order);
        x.alter(true, 1, 20, 2);
        c.is(44, x::order);
        // The numbers of heaps and holes do not matter, the units do.
        c.is(0, of(row(7, 1, 7, 1, 7, 1, 7, 1, 7, 1), row(7, 5))::order);
        c.badState(of(row(7, 1, 7, 1), row(7, 1, 7, 2))::order);
    }

    private static void orderWhateverTheTerms(Check c) {
        int[][] terms = {{0, 0}, {10000, 10000}, {0, 10000}, {10000, 0}};
        for (int[] both : terms) {
            Heapcarrier x = orderly();
            x.terms(both[0], both[1]);
            c.is(44, x::order);
            x.measure(RING, 12);
            c.is(28, x::order);
        }
    }

    private static void handAtFirst(Check c) {
        Heapcarrier x = new Heapcarrier();
        x.heap(0, 5);
        c.is(0, () -> x.about(false, 0, 2));
        x.hole(0, 5);
        c.is(0, () -> x.about(true, 0, 2));
        c.is(0, () -> x.carry(0, 0, 5));
        x.hole(1, 5);
        x.heap(1, 5);
        c.is(0, () -> x.about(true, 1, 2));
        c.is(0, () -> x.about(false, 1, 2));
        c.is(0, () -> x.carry(0, 1, 0));
        c.is(0, () -> x.carry(1, 0, 0));
        c.is(0, () -> x.carry(1, 1, 0));
        c.is(5, () -> x.carry(0, 0, 5));
    }

    /** 5 heaps of 4 and 5 holes that want 4, all at one place. */
    private static Heapcarrier fours() {
        return of(row(0, 4, 0, 4, 0, 4, 0, 4, 0, 4), row(0, 4, 0, 4, 0, 4, 0, 4, 0, 4));
    }

    private static void heapGivesMore(Check c) {
        for (int k = 0; k < 5; k++) {
            int heap = k;
            Heapcarrier x = fours();
            for (int hole = 1; hole < 5; hole++) {
                x.carry(heap, hole, 1);
            }
            c.is(4, x::whyNot);
            c.is(32000, x::handCost);
            x.carry(heap, 0, 1);
            c.is(5, () -> x.about(false, heap, 2));
            c.is(1, x::whyNot);
            c.badState(x::handCost);
            x.alter(false, heap, 0, 5);
            c.is(4, x::whyNot);
            x.alter(false, heap, 0, 1);
            c.is(1, x::whyNot);
        }
        Heapcarrier y = of(row(0, 20), row(0, 20));
        y.carry(0, 0, 20);
        c.is(0, y::whyNot);
    }

    private static void holeGetsMore(Check c) {
        for (int k = 0; k < 5; k++) {
            int hole = k;
            Heapcarrier x = fours();
            for (int heap = 1; heap < 5; heap++) {
                x.carry(heap, hole, 1);
            }
            c.is(4, x::whyNot);
            c.is(32000, x::handCost);
            x.carry(0, hole, 1);
            c.is(5, () -> x.about(true, hole, 2));
            c.is(2, x::whyNot);
            c.badState(x::handCost);
            x.alter(true, hole, 0, 5);
            c.is(4, x::whyNot);
            x.alter(true, hole, 0, 1);
            c.is(2, x::whyNot);
        }
    }

    private static void wayHasMore(Check c) {
        for (int way = 0; way < 25; way++) {
            int heap = way / 5;
            int hole = way % 5;
            Heapcarrier x = fours();
            x.carry(heap, hole, 2);
            x.cap(heap, hole, 2);
            c.is(4, x::whyNot);
            c.is(36000, x::handCost);
            x.cap(heap, hole, 1);
            c.is(3, x::whyNot);
            c.badState(x::handCost);
            x.cap(heap, hole, 0);
            c.is(3, x::whyNot);
            x.carry(heap, hole, 0);
            c.is(4, x::whyNot);
            x.carry(heap, hole, 1);
            c.is(3, x::whyNot);
            x.cap(heap, hole, NONE);
            c.is(4, x::whyNot);
        }
    }

    private static void costsMore(Check c) {
        Heapcarrier x = of(row(0, 2), row(5, 2, 6, 2));
        x.carry(0, 0, 2);
        c.is(0, x::whyNot);
        x.carry(0, 0, 1);
        x.carry(0, 1, 1);
        // That costs just 1 more.
        c.is(2011, x::handCost);
        c.is(2010, x::least);
        c.is(4, x::whyNot);
        x.own(0, 0, 6);
        // Now it costs as much, though the least plan is another one.
        c.is(2, () -> x.carried(0, 0));
        c.is(2012, x::handCost);
        c.is(0, x::whyNot);
        x.own(0, 0, 7);
        c.is(4, x::whyNot);
        Heapcarrier y = new Heapcarrier();
        c.is(0, y::whyNot);
        y.heap(0, 1);
        c.is(0, y::whyNot);
        y.hole(100, 1);
        c.is(4, y::whyNot);
        y.own(0, 0, 2000);
        c.is(0, y::whyNot);
        y.own(0, 0, 1999);
        c.is(4, y::whyNot);
    }

    private static void firstOfThese(Check c) {
        Heapcarrier x = of(row(0, 3, 0, 9), row(0, 2, 0, 9));
        x.cap(1, 0, 2);
        x.carry(1, 0, 3);
        x.carry(0, 1, 4);
        c.is(1, x::whyNot);
        x.carry(0, 1, 0);
        c.is(2, x::whyNot);
        x.alter(true, 0, 0, 3);
        c.is(3, x::whyNot);
        x.carry(1, 0, 2);
        c.is(4, x::whyNot);
        x.take();
        c.is(0, x::whyNot);
    }

    private static void handStays(Check c) {
        Heapcarrier x = of(row(0, 3), row(4, 5));
        x.carry(0, 0, 20);
        x.alter(false, 0, 100, 1);
        c.is(20, () -> x.about(false, 0, 2));
        x.alter(true, 0, 100, 1);
        c.is(20, () -> x.about(true, 0, 2));
        x.cap(0, 0, 0);
        c.is(20, () -> x.about(false, 0, 2));
        x.own(0, 0, 10000);
        x.measure(RING, 1);
        x.terms(0, 0);
        c.is(20, () -> x.about(true, 0, 2));
        for (int k = 0; k < 4; k++) {
            x.heap(k, 1);
            x.hole(k, 1);
        }
        c.badState(() -> x.heap(0, 1));
        c.badState(x::leastAnew);
        x.least();
        x.proof();
        c.is(20, () -> x.about(false, 0, 2));
        c.is(20, () -> x.about(true, 0, 2));
        c.is(0, () -> x.about(false, 1, 2));
        c.is(20, () -> x.carry(0, 0, 19));
        c.is(19, () -> x.carry(0, 0, 19));
    }

    private static void take(Check c) {
        Heapcarrier x = new Heapcarrier();
        c.is(0, x::take);
        x.heap(0, 1);
        c.is(0, x::take);
        x.hole(0, 1);
        c.is(1, x::take);
        c.is(0, x::take);
        x.cap(0, 0, 0);
        c.is(1, x::take);
        c.is(0, () -> x.about(false, 0, 2));
        Heapcarrier y = of(row(0, 20, 0, 20, 0, 20, 0, 20, 0, 20), row(0, 20, 0, 20, 0, 20, 0, 20, 0, 20));
        for (int way = 0; way < 25; way++) {
            y.cap(way / 5, way % 5, 4);
        }
        c.is(25, y::take);
        c.is(0, y::take);
        c.is(0, y::handCost);
        c.is(20, () -> y.about(false, 4, 2));
        c.is(20, () -> y.about(true, 4, 2));
        y.carry(4, 4, 20);
        y.carry(0, 0, 3);
        c.is(2, y::take);
        c.is(4, () -> y.carry(4, 4, 4));
    }

    private static void handCostOfNothing(Check c) {
        Heapcarrier x = new Heapcarrier();
        c.is(0, x::handCost);
        x.heap(0, 20);
        c.is(20000, x::handCost);
        x.hole(0, 20);
        c.is(40000, x::handCost);
        x.terms(0, 0);
        c.is(0, x::handCost);
        x.terms(10000, 10000);
        c.is(400000, x::handCost);
        x.own(0, 0, 10000);
        x.carry(0, 0, 20);
        c.is(200000, x::handCost);
        x.own(0, 0, 0);
        c.is(0, x::handCost);
    }

    private static void handCostOfNoPlan(Check c) {
        Supplier<Heapcarrier> heapGivesMore = () -> {
            Heapcarrier x = of(row(0, 3), row(0, 5));
            x.carry(0, 0, 4);
            return x;
        };
        Edges.refused(c, Edges.STATE, heapGivesMore, Heapcarrier::handCost);
        Supplier<Heapcarrier> holeGetsMore = () -> {
            Heapcarrier x = of(row(0, 5), row(0, 3));
            x.carry(0, 0, 4);
            return x;
        };
        Edges.refused(c, Edges.STATE, holeGetsMore, Heapcarrier::handCost);
        Supplier<Heapcarrier> wayHasMore = () -> {
            Heapcarrier x = of(row(0, 5), row(0, 5));
            x.carry(0, 0, 4);
            x.cap(0, 0, 3);
            return x;
        };
        Edges.refused(c, Edges.STATE, wayHasMore, Heapcarrier::handCost);
        Heapcarrier x = of(row(0, 5), row(0, 5));
        x.carry(0, 0, 4);
        c.is(4, x::whyNot);
        c.is(2000, x::handCost);
    }

    private static void noMiddle(Check c) {
        Edges.refused(c, Edges.STATE, States::nothing, Heapcarrier::middle);
        Edges.refused(c, Edges.STATE, () -> of(row(), row(7, 20, 8, 20)), Heapcarrier::middle);
        Heapcarrier x = new Heapcarrier();
        c.badState(x::middle);
        x.heap(7, 1);
        c.is(7, x::middle);
    }

    private static void middleAtTheEnds(Check c) {
        for (int measure : row(LINE, SQUARE)) {
            for (int place : row(0, 1, 99, 100)) {
                Heapcarrier x = of(row(place, 1, place, 20), row());
                x.measure(measure, 0);
                c.is(place, x::middle);
            }
        }
        Heapcarrier y = of(row(0, 20, 100, 20, 100, 1), row());
        c.is(100, y::middle);
        Heapcarrier z = of(row(0, 20, 0, 1, 100, 20), row());
        c.is(0, z::middle);
    }

    private static void leastMiddle(Check c) {
        // On a line all places between are as good.
        c.is(0, of(row(0, 20, 100, 20), row())::middle);
        c.is(40, of(row(60, 3, 40, 3), row())::middle);
        Heapcarrier x = of(row(100, 1, 99, 1), row());
        x.measure(SQUARE, 0);
        c.is(99, x::middle);
        Heapcarrier y = of(row(0, 1, 1, 1), row());
        y.measure(SQUARE, 0);
        c.is(0, y::middle);
        Heapcarrier z = of(row(10, 1, 13, 1), row());
        z.measure(SQUARE, 0);
        c.is(11, z::middle);
        Heapcarrier w = of(row(70, 20, 80, 20, 100, 20), row());
        w.measure(RING, 1);
        c.is(0, w::middle);
    }

    private static void middleOnARing(Check c) {
        Heapcarrier x = of(row(100, 20), row());
        x.measure(RING, 100);
        c.is(0, x::middle);
        x.measure(RING, 99);
        c.is(1, x::middle);
        x.measure(RING, 101);
        c.is(100, x::middle);
        x.measure(RING, 200);
        c.is(100, x::middle);
        x.measure(RING, 2);
        c.is(0, x::middle);
        x.measure(RING, 3);
        c.is(1, x::middle);
        // From 98 and 3 round by 0, which is as far as 100 here.
        Heapcarrier y = of(row(98, 1, 3, 1), row());
        y.measure(RING, 100);
        c.is(0, y::middle);
        y.alter(false, 0, 98, 2);
        c.is(98, y::middle);
        y.alter(false, 1, 3, 3);
        c.is(3, y::middle);
    }

    private static void middleOfHeapsAlone(Check c) {
        Heapcarrier x = of(row(10, 3, 90, 2), row(90, 20));
        c.is(10, x::middle);
        x.own(0, 0, 10000);
        x.own(1, 0, 0);
        c.is(10, x::middle);
        x.cap(0, 0, 0);
        x.cap(1, 0, 20);
        x.terms(0, 10000);
        x.carry(1, 0, 20);
        c.is(10, x::middle);
    }
}
