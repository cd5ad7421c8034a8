import java.util.ArrayList;
import java.util.Arrays;
import java.util.List;

/**
 * The document in its plainest words, to compare with: the least plan by the best end from every state in which the
 * ways told so far can leave the heaps and holes. For small amounts, as there are many states.
 */
final class Model {
    private final List<int[]> heaps = new ArrayList<>();
    private final List<int[]> holes = new ArrayList<>();
    private final int[][] owns = new int[5][5];
    private final int[][] caps = new int[5][5];
    private final int[][] hand = new int[5][5];
    private int measure = 0;
    private int length = 0;
    private int lost = 1000;
    private int missing = 1000;

    Model() {
        for (int heap = 0; heap < 5; heap++) {
            Arrays.fill(owns[heap], -1);
            Arrays.fill(caps[heap], -1);
        }
    }

    private static void argument(boolean fits) {
        if (!fits) {
            throw new IllegalArgumentException();
        }
    }

    private static void state(boolean fits) {
        if (!fits) {
            throw new IllegalStateException();
        }
    }

    private void way(int heap, int hole) {
        one(false, heap);
        one(true, hole);
    }

    private int[] one(boolean isHole, int number) {
        List<int[]> all = isHole ? holes : heaps;
        if (number < 0 || number >= all.size()) {
            throw new IndexOutOfBoundsException();
        }
        return all.get(number);
    }

    private static void spot(int place, int amount) {
        argument(place >= 0 && place <= 100 && amount >= 1 && amount <= 20);
    }

    int add(boolean isHole, int place, int amount) {
        spot(place, amount);
        List<int[]> all = isHole ? holes : heaps;
        state(all.size() < 5);
        all.add(new int[] {place, amount});
        return all.size() - 1;
    }

    int alter(boolean isHole, int number, int place, int amount) {
        int[] one = one(isHole, number);
        spot(place, amount);
        int before = one[1];
        one[0] = place;
        one[1] = amount;
        return before;
    }

    int measure(int newMeasure, int newLength) {
        argument(newMeasure >= 0 && newMeasure <= 2);
        argument(newMeasure != 2 || newLength >= 1 && newLength <= 200);
        int before = measure;
        measure = newMeasure;
        length = newMeasure == 2 ? newLength : length;
        return before;
    }

    private static int tell(int[][] rows, int heap, int hole, int number) {
        int before = rows[heap][hole];
        rows[heap][hole] = number;
        return before;
    }

    int own(int heap, int hole, int cost) {
        way(heap, hole);
        argument(cost >= -1 && cost <= 10000);
        return tell(owns, heap, hole, cost);
    }

    int cap(int heap, int hole, int cap) {
        way(heap, hole);
        argument(cap >= -1 && cap <= 20);
        return tell(caps, heap, hole, cap);
    }

    int carry(int heap, int hole, int units) {
        way(heap, hole);
        argument(units >= 0 && units <= 20);
        return tell(hand, heap, hole, units);
    }

    int terms(int newLost, int newMissing) {
        argument(newLost >= 0 && newLost <= 10000 && newMissing >= 0 && newMissing <= 10000);
        int before = lost;
        lost = newLost;
        missing = newMissing;
        return before;
    }

    private int far(int from, int to) {
        int apart = Math.max(from, to) - Math.min(from, to);
        switch (measure) {
            case 0: return apart;
            case 1: return apart * apart;
            default:
                while (apart >= length) {
                    apart -= length;
                }
                return apart < length - apart ? apart : length - apart;
        }
    }

    int unit(int heap, int hole) {
        way(heap, hole);
        return owns[heap][hole] >= 0 ? owns[heap][hole] : far(heaps.get(heap)[0], holes.get(hole)[0]);
    }

    /** What is told, laid out for the search; to be changed for a question of what would be. */
    private Search search() {
        Search search = new Search();
        search.has = heaps.stream().mapToInt(one -> one[1]).toArray();
        search.wants = holes.stream().mapToInt(one -> one[1]).toArray();
        search.lost = lost;
        search.missing = missing;
        for (int heap = 0; heap < heaps.size(); heap++) {
            for (int hole = 0; hole < holes.size(); hole++) {
                search.unit[heap][hole] = unit(heap, hole);
                search.cap[heap][hole] = caps[heap][hole] < 0 ? 1000 : caps[heap][hole];
            }
        }
        return search;
    }

    int least() {
        return search().least();
    }

    int leastAnew() {
        double ways = 1;
        for (int heap = 0; heap < heaps.size(); heap++) {
            for (int hole = 0; hole < holes.size(); hole++) {
                int most = Math.min(heaps.get(heap)[1], holes.get(hole)[1]);
                ways *= 1 + (caps[heap][hole] < 0 ? most : Math.min(most, caps[heap][hole]));
            }
        }
        state(ways <= 20000);
        return least();
    }

    int carried(int heap, int hole) {
        way(heap, hole);
        return search().plan()[heap][hole];
    }

    private static int sum(int[][] rows) {
        int sum = 0;
        for (int[] row : rows) {
            sum += Arrays.stream(row).sum();
        }
        return sum;
    }

    private static int sumOf(boolean isHole, int number, int[][] rows) {
        int sum = 0;
        for (int other = 0; other < 5; other++) {
            sum += isHole ? rows[other][number] : rows[number][other];
        }
        return sum;
    }

    int left(boolean isHole, int number) {
        int[] one = one(isHole, number);
        return one[1] - sumOf(isHole, number, search().plan());
    }

    int without(int heap, int hole) {
        way(heap, hole);
        Search refused = search();
        refused.cap[heap][hole] = 0;
        return refused.least() - least();
    }

    int price(boolean isHole, int number) {
        one(isHole, number);
        Search other = search();
        if (isHole) {
            other.wants[number]--;
            return least() - other.least();
        }
        other.has[number]++;
        return other.least() - least();
    }

    int toll(int heap, int hole) {
        way(heap, hole);
        if (caps[heap][hole] < 0) {
            return 0;
        }
        int above = price(false, heap) + price(true, hole) - unit(heap, hole);
        return above > 0 ? above : 0;
    }

    int proof() {
        int proof = 0;
        for (int heap = 0; heap < heaps.size(); heap++) {
            proof += price(false, heap) * heaps.get(heap)[1];
            for (int hole = 0; hole < holes.size(); hole++) {
                proof -= toll(heap, hole) * Math.max(0, caps[heap][hole]);
            }
        }
        for (int hole = 0; hole < holes.size(); hole++) {
            proof += price(true, hole) * holes.get(hole)[1];
        }
        return proof;
    }

    private int surplus(int k) {
        int surplus = 0;
        for (int[] heap : heaps) {
            surplus += (measure == 2 ? heap[0] % length : heap[0]) <= k ? heap[1] : 0;
        }
        for (int[] hole : holes) {
            surplus -= (measure == 2 ? hole[0] % length : hole[0]) <= k ? hole[1] : 0;
        }
        return surplus;
    }

    int order() {
        state(measure != 1);
        state(heaps.stream().mapToInt(one -> one[1]).sum() == holes.stream().mapToInt(one -> one[1]).sum());
        for (int heap = 0; heap < 5; heap++) {
            for (int hole = 0; hole < 5; hole++) {
                state(owns[heap][hole] < 0 && caps[heap][hole] < 0);
            }
        }
        int[] surpluses = new int[measure == 2 ? length : 100];
        for (int k = 0; k < surpluses.length; k++) {
            surpluses[k] = surplus(k);
        }
        // The middle one of all surpluses is a best number to take off.
        int[] sorted = surpluses.clone();
        Arrays.sort(sorted);
        int off = measure == 2 ? sorted[sorted.length / 2] : 0;
        return Arrays.stream(surpluses).map(one -> Math.abs(one - off)).sum();
    }

    /** What carrying all would cost at the least, if nothing might stay: another way to what order says. */
    int leastOfAllCarried() {
        Search search = search();
        search.lost = 100000;
        search.missing = 100000;
        return search.least();
    }

    int take() {
        int[][] plan = search().plan();
        int others = 0;
        for (int heap = 0; heap < 5; heap++) {
            for (int hole = 0; hole < 5; hole++) {
                others += hand[heap][hole] != plan[heap][hole] ? 1 : 0;
                hand[heap][hole] = plan[heap][hole];
            }
        }
        return others;
    }

    int whyNot() {
        for (int heap = 0; heap < heaps.size(); heap++) {
            if (sumOf(false, heap, hand) > heaps.get(heap)[1]) {
                return 1;
            }
        }
        for (int hole = 0; hole < holes.size(); hole++) {
            if (sumOf(true, hole, hand) > holes.get(hole)[1]) {
                return 2;
            }
        }
        for (int heap = 0; heap < heaps.size(); heap++) {
            for (int hole = 0; hole < holes.size(); hole++) {
                if (caps[heap][hole] >= 0 && hand[heap][hole] > caps[heap][hole]) {
                    return 3;
                }
            }
        }
        return handCost(true) > least() ? 4 : 0;
    }

    int handCost() {
        int why = whyNot();
        state(why == 0 || why == 4);
        return handCost(true);
    }

    private int handCost(boolean isPlan) {
        int cost = 0;
        int units = sum(hand);
        for (int heap = 0; heap < heaps.size(); heap++) {
            cost += heaps.get(heap)[1] * lost;
            for (int hole = 0; hole < holes.size(); hole++) {
                cost += hand[heap][hole] * unit(heap, hole);
            }
        }
        for (int[] hole : holes) {
            cost += hole[1] * missing;
        }
        return cost - units * (lost + missing);
    }

    int middle() {
        state(!heaps.isEmpty());
        int middle = -1;
        int best = Integer.MAX_VALUE;
        for (int place = 100; place >= 0; place--) {
            int cost = 0;
            for (int[] heap : heaps) {
                cost += heap[1] * far(heap[0], place);
            }
            if (cost <= best) {
                best = cost;
                middle = place;
            }
        }
        return middle;
    }

    int about(boolean isHole, int number, int what) {
        int[] one = one(isHole, number);
        argument(what >= 0 && what <= 2);
        return what == 2 ? sumOf(isHole, number, hand) : one[what];
    }

    int count(int what) {
        argument(what >= 0 && what <= 6);
        if (what == 6) {
            return sum(search().plan());
        }
        return new int[] {heaps.size(), holes.size(), measure, length, lost, missing}[what];
    }

    /** The least cost from every state on, kept so that each state is looked into once. */
    private static final class Search {
        private final int[][] unit = new int[5][5];
        private final int[][] cap = new int[5][5];
        private int[] has;
        private int[] wants;
        private int lost;
        private int missing;
        private int[] known;
        private int states;

        private int least() {
            prepare();
            return best(0, 0, has.length == 0 ? 0 : has[0], wants.clone());
        }

        private int[][] plan() {
            int[][] plan = new int[5][5];
            prepare();
            int[] lacks = wants.clone();
            for (int heap = 0; heap < has.length; heap++) {
                int stays = has[heap];
                for (int hole = 0; hole < wants.length; hole++) {
                    int units = most(heap, hole, stays, lacks);
                    plan[heap][hole] = units;
                    stays -= units;
                    lacks[hole] -= units;
                }
            }
            return plan;
        }

        /** The most units on this way with which the rest can still be at its best. */
        private int most(int heap, int hole, int stays, int[] lacks) {
            int best = best(heap, hole, stays, lacks);
            int units = Math.min(Math.min(stays, lacks[hole]), cap[heap][hole]);
            while (with(heap, hole, stays, lacks, units) != best) {
                units--;
            }
            return units;
        }

        private void prepare() {
            states = 1;
            for (int want : wants) {
                states *= want + 1;
            }
            known = new int[states * 22 * 5 * Math.max(1, wants.length)];
            Arrays.fill(known, -1);
        }

        private int index(int heap, int hole, int stays, int[] lacks) {
            int code = 0;
            for (int k = 0; k < wants.length; k++) {
                code = code * (wants[k] + 1) + lacks[k];
            }
            return ((heap * wants.length + hole) * 22 + stays) * states + code;
        }

        private int best(int heap, int hole, int stays, int[] lacks) {
            if (heap == has.length) {
                return missing * Arrays.stream(lacks).sum();
            }
            if (hole == wants.length) {
                int next = heap + 1 < has.length ? has[heap + 1] : 0;
                return stays * lost + best(heap + 1, 0, next, lacks);
            }
            int index = index(heap, hole, stays, lacks);
            if (known[index] < 0) {
                int best = Integer.MAX_VALUE;
                int most = Math.min(Math.min(stays, lacks[hole]), cap[heap][hole]);
                for (int units = 0; units <= most; units++) {
                    best = Math.min(best, with(heap, hole, stays, lacks, units));
                }
                known[index] = best;
            }
            return known[index];
        }

        private int with(int heap, int hole, int stays, int[] lacks, int units) {
            lacks[hole] -= units;
            int cost = units * unit[heap][hole] + best(heap, hole + 1, stays - units, lacks);
            lacks[hole] += units;
            return cost;
        }
    }
}
