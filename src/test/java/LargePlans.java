import java.util.Arrays;
import java.util.Map;
import java.util.function.Consumer;

/**
 * Heaps and holes too many and too great for the model. Here the answers prove one another: prices that keep within
 * what units cost prove the least cost, and that no circle of moves is free proves the ties.
 */
final class LargePlans {
    private static final int FAR = 1 << 28;

    private final Check check;
    private final Dice dice;
    private final Heapcarrier x = new Heapcarrier();
    private final int heaps;
    private final int holes;
    private final int[][] caps = new int[5][5];
    private final int lost;
    private final int missing;

    private LargePlans(Check check, long seed) {
        this.check = check;
        dice = new Dice(seed);
        heaps = dice.from(3, 5);
        holes = dice.from(3, 5);
        int mostPlace = dice.oneIn(2) ? 100 : dice.from(1, 9);
        for (int heap = 0; heap < heaps; heap++) {
            x.heap(dice.from(0, mostPlace), dice.from(1, 20));
        }
        for (int hole = 0; hole < holes; hole++) {
            x.hole(dice.from(0, mostPlace), dice.from(1, 20));
        }
        x.measure(dice.below(3), dice.from(1, 2 * mostPlace));
        int mostTerm = dice.oneIn(2) ? 2 * mostPlace : 10000;
        lost = dice.from(0, mostTerm);
        missing = dice.from(0, mostTerm);
        x.terms(lost, missing);
        for (int heap = 0; heap < heaps; heap++) {
            for (int hole = 0; hole < holes; hole++) {
                caps[heap][hole] = dice.oneIn(2) ? -1 : dice.from(0, 20);
                x.cap(heap, hole, caps[heap][hole]);
                x.own(heap, hole, dice.oneIn(3) ? dice.from(0, mostPlace) : -1);
            }
        }
    }

    static void addTo(Map<String, Consumer<Check>> tests) {
        tests.put("large plans are least, by their prices", check -> all(check, LargePlans::leastByPrices));
        tests.put("large plans keep their bounds and cost the least", check -> all(check, LargePlans::isPlan));
        tests.put("large plans have the most on the first ways", check -> all(check, LargePlans::firstOfTies));
        tests.put("prices are what one unit more or fewer brings", check -> all(check, LargePlans::pricesByAltering));
        tests.put("without is what refusing a way brings", check -> all(check, LargePlans::withoutByRefusing));
    }

    private static void all(Check check, Consumer<LargePlans> test) {
        for (int seed = 0; seed < 300 && check.wrong() == 0; seed++) {
            test.accept(new LargePlans(check, 7000 + seed));
        }
    }

    private void leastByPrices() {
        for (int heap = 0; heap < heaps; heap++) {
            check.holds("a heap's price is at most the lost price", x.price(false, heap) <= lost);
            for (int hole = 0; hole < holes; hole++) {
                int ends = x.price(false, heap) + x.price(true, hole);
                int toll = x.toll(heap, hole);
                check.holds("prices less the toll are at most the unit's cost", ends - toll <= x.unit(heap, hole));
                check.holds("a toll is for a cap alone", toll >= 0 && (toll == 0 || caps[heap][hole] >= 0));
            }
        }
        for (int hole = 0; hole < holes; hole++) {
            check.holds("a hole's price is at most the missing price", x.price(true, hole) <= missing);
        }
        check.is(x.least(), x::proof);
    }

    private void isPlan() {
        int units = 0;
        for (int heap = 0; heap < heaps; heap++) {
            for (int hole = 0; hole < holes; hole++) {
                int carried = x.carried(heap, hole);
                check.holds("no cap is passed", carried >= 0 && (caps[heap][hole] < 0 || carried <= caps[heap][hole]));
                units += carried;
            }
        }
        check.is(units, () -> x.count(6));
        x.take();
        checkLeft(false, heaps);
        checkLeft(true, holes);
        check.is(x.least(), x::handCost);
        check.is(0, x::whyNot);
    }

    private void checkLeft(boolean isHole, int size) {
        for (int k = 0; k < size; k++) {
            int number = k;
            check.is(x.about(isHole, k, 1) - x.about(isHole, k, 2), () -> x.left(isHole, number));
            check.holds("no more than there is", x.left(isHole, k) >= 0);
        }
    }

    /** Of all circles of moves that leave the ways before this one alone, none that adds to it may be free. */
    private void firstOfTies() {
        for (int heap = 0; heap < heaps; heap++) {
            for (int hole = 0; hole < holes; hole++) {
                int carried = x.carried(heap, hole);
                if (caps[heap][hole] < 0 || carried < caps[heap][hole]) {
                    int circle = x.unit(heap, hole) + moves(heap, hole)[5 + hole][heap];
                    check.holds("a unit more on way " + heap + " " + hole + " costs more", circle > 0);
                }
            }
        }
    }

    /** What moves from each heap (0 to 4), hole (5 to 9) and the rest (10) to each cost, on ways behind this one. */
    private int[][] moves(int firstHeap, int firstHole) {
        int[][] cost = new int[11][11];
        for (int[] row : cost) {
            Arrays.fill(row, FAR);
        }
        for (int heap = 0; heap < heaps; heap++) {
            cost[heap][10] = lost;
            cost[10][heap] = x.left(false, heap) > 0 ? -lost : FAR;
            for (int hole = 0; hole < holes; hole++) {
                int carried = x.carried(heap, hole);
                if (heap * 5 + hole > firstHeap * 5 + firstHole) {
                    boolean hasRoom = caps[heap][hole] < 0 || carried < caps[heap][hole];
                    cost[heap][5 + hole] = hasRoom ? x.unit(heap, hole) : FAR;
                    cost[5 + hole][heap] = carried > 0 ? -x.unit(heap, hole) : FAR;
                }
            }
        }
        for (int hole = 0; hole < holes; hole++) {
            cost[10][5 + hole] = missing;
            cost[5 + hole][10] = x.left(true, hole) > 0 ? -missing : FAR;
        }
        for (int by = 0; by < 11; by++) {
            for (int from = 0; from < 11; from++) {
                for (int to = 0; to < 11; to++) {
                    if (cost[from][by] < FAR && cost[by][to] < FAR) {
                        cost[from][to] = Math.min(cost[from][to], cost[from][by] + cost[by][to]);
                    }
                }
            }
        }
        return cost;
    }

    private void pricesByAltering() {
        int least = x.least();
        for (int k = 0; k < heaps; k++) {
            int heap = k;
            int place = x.about(false, heap, 0);
            int amount = x.about(false, heap, 1);
            if (amount < 20) {
                x.alter(false, heap, place, amount + 1);
                int more = x.least() - least;
                x.alter(false, heap, place, amount);
                check.is(more, () -> x.price(false, heap));
            }
        }
        for (int k = 0; k < holes; k++) {
            int hole = k;
            int place = x.about(true, hole, 0);
            int amount = x.about(true, hole, 1);
            if (amount > 1) {
                x.alter(true, hole, place, amount - 1);
                int fewer = least - x.least();
                x.alter(true, hole, place, amount);
                check.is(fewer, () -> x.price(true, hole));
            }
        }
        check.is(least, x::least);
    }

    private void withoutByRefusing() {
        int least = x.least();
        for (int k = 0; k < heaps * holes; k++) {
            int heap = k / holes;
            int hole = k % holes;
            int cap = x.cap(heap, hole, 0);
            int more = x.least() - least;
            x.cap(heap, hole, cap);
            check.is(more, () -> x.without(heap, hole));
        }
        check.is(least, x::least);
    }
}
