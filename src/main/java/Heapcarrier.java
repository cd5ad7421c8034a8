import java.util.Arrays;

/** Earth moved from heaps to holes at least cost. The promises of each call stand in ../shared/DOC.md. */
public final class Heapcarrier {
    public static final int NONE = -1;
    public static final int LINE = 0, SQUARE = 1, RING = 2;

    private static final int MOST = 5;
    private static final int WAYS = MOST * MOST;
    private static final int LAST_PLACE = 100;
    private static final int MOST_AMOUNT = 20;
    private static final int MOST_UNITS = MOST * MOST_AMOUNT;
    private static final int MOST_LENGTH = 200;
    private static final int MOST_COST = 10000;
    private static final int MOST_TRIED = 20000;
    private static final int FIRST_TERMS = 1000;

    private final Side heaps;
    private final Side holes;
    private final int[] owns;
    private final int[] caps;
    private final int[] hand;
    private final int[] surpluses;
    private final int[] heapPrices;
    private final int[] holePrices;
    private final Plan leastPlan;
    private final Plan otherPlan;
    private int measureNow;
    private int ringLength;
    private int lostPrice;
    private int missingPrice;
    private boolean isPlanned;

    public Heapcarrier() {
        heaps = new Side();
        holes = new Side();
        owns = new int[WAYS];
        caps = new int[WAYS];
        hand = new int[WAYS];
        surpluses = new int[MOST_LENGTH];
        heapPrices = new int[MOST];
        holePrices = new int[MOST];
        leastPlan = new Plan();
        otherPlan = new Plan();
        measureNow = LINE;
        ringLength = 0;
        lostPrice = FIRST_TERMS;
        missingPrice = FIRST_TERMS;
        isPlanned = false;
        Arrays.fill(owns, NONE);
        Arrays.fill(caps, NONE);
    }

    // ---- what is told

    public int heap(int place, int amount) throws IllegalArgumentException, IllegalStateException {
        return addTo(heaps, place, amount);
    }

    public int hole(int place, int amount) throws IllegalArgumentException, IllegalStateException {
        return addTo(holes, place, amount);
    }

    public int alter(boolean isHole, int number, int place, int amount)
            throws IndexOutOfBoundsException, IllegalArgumentException {
        checkNumber(isHole, number);
        checkPlaceAndAmount(place, amount);
        Side side = side(isHole);
        int before = side.amounts[number];
        side.places[number] = place;
        side.amounts[number] = amount;
        isPlanned = false;
        return before;
    }

    public int measure(int measure, int length) throws IllegalArgumentException {
        checkRange(measure, LINE, RING);
        if (measure == RING) {
            checkRange(length, 1, MOST_LENGTH);
            ringLength = length;
        }
        int before = measureNow;
        measureNow = measure;
        isPlanned = false;
        return before;
    }

    public int own(int heap, int hole, int cost) throws IndexOutOfBoundsException, IllegalArgumentException {
        checkWay(heap, hole);
        checkRange(cost, NONE, MOST_COST);
        isPlanned = false;
        return tell(owns, wayOf(heap, hole), cost);
    }

    public int cap(int heap, int hole, int cap) throws IndexOutOfBoundsException, IllegalArgumentException {
        checkWay(heap, hole);
        checkRange(cap, NONE, MOST_AMOUNT);
        isPlanned = false;
        return tell(caps, wayOf(heap, hole), cap);
    }

    public int terms(int lost, int missing) throws IllegalArgumentException {
        checkRange(lost, 0, MOST_COST);
        checkRange(missing, 0, MOST_COST);
        int before = lostPrice;
        lostPrice = lost;
        missingPrice = missing;
        isPlanned = false;
        return before;
    }

    // ---- the least plan

    public int unit(int heap, int hole) throws IndexOutOfBoundsException {
        checkWay(heap, hole);
        return unitCost(heap, hole);
    }

    public int least() {
        return planned().cost;
    }

    public int leastAnew() throws IllegalStateException {
        if (isTooMuchToTry()) {
            throw new IllegalStateException("too many plans to try");
        }
        layOut(otherPlan);
        int best = otherPlan.cost;
        for (int tried = 1; tried < MOST_TRIED && otherPlan.turnToNext(); tried++) {
            best = Math.min(best, otherPlan.cost);
        }
        return best;
    }

    public int carried(int heap, int hole) throws IndexOutOfBoundsException {
        checkWay(heap, hole);
        return planned().carriedUnits[wayOf(heap, hole)];
    }

    public int left(boolean isHole, int number) throws IndexOutOfBoundsException {
        checkNumber(isHole, number);
        return isHole ? planned().lacks[number] : planned().stays[number];
    }

    public int without(int heap, int hole) throws IndexOutOfBoundsException {
        checkWay(heap, hole);
        layOut(otherPlan);
        otherPlan.room[wayOf(heap, hole)] = 0;
        otherPlan.improve();
        return otherPlan.cost - planned().cost;
    }

    // ---- prices

    public int price(boolean isHole, int number) throws IndexOutOfBoundsException {
        checkNumber(isHole, number);
        return isHole ? holePrice(number) : heapPrice(number);
    }

    public int toll(int heap, int hole) throws IndexOutOfBoundsException {
        checkWay(heap, hole);
        return tollOf(heap, hole, heapPrice(heap), holePrice(hole));
    }

    public int proof() {
        int proof = 0;
        for (int heap = 0; heap < heaps.size; heap++) {
            heapPrices[heap] = heapPrice(heap);
            proof += heapPrices[heap] * heaps.amounts[heap];
        }
        for (int hole = 0; hole < holes.size; hole++) {
            holePrices[hole] = holePrice(hole);
            proof += holePrices[hole] * holes.amounts[hole];
        }
        for (int heap = 0; heap < heaps.size; heap++) {
            for (int hole = 0; hole < holes.size; hole++) {
                int toll = tollOf(heap, hole, heapPrices[heap], holePrices[hole]);
                proof -= toll * Math.max(caps[wayOf(heap, hole)], 0);
            }
        }
        return proof;
    }

    // ---- by order, by hand, middles

    public int order() throws IllegalStateException {
        if (!canGoByOrder()) {
            throw new IllegalStateException("not to be carried by order");
        }
        if (measureNow == LINE) {
            fillSurpluses(LAST_PLACE);
            return sizesOff(0, LAST_PLACE);
        }
        fillSurpluses(ringLength);
        int best = sizesOff(0, ringLength);
        // No surplus is beyond all units, so neither is the best number to take off them.
        for (int off = -MOST_UNITS; off <= MOST_UNITS; off++) {
            best = Math.min(best, sizesOff(off, ringLength));
        }
        return best;
    }

    public int carry(int heap, int hole, int units) throws IndexOutOfBoundsException, IllegalArgumentException {
        checkWay(heap, hole);
        checkRange(units, 0, MOST_AMOUNT);
        return tell(hand, wayOf(heap, hole), units);
    }

    public int take() {
        Plan plan = planned();
        int others = 0;
        for (int way = 0; way < WAYS; way++) {
            if (hand[way] != plan.carriedUnits[way]) {
                others++;
                hand[way] = plan.carriedUnits[way];
            }
        }
        return others;
    }

    public int whyNot() {
        int fault = faultByHand();
        if (fault != 0) {
            return fault;
        }
        return costByHand() > planned().cost ? 4 : 0;
    }

    public int handCost() throws IllegalStateException {
        if (faultByHand() != 0) {
            throw new IllegalStateException("no plan by hand");
        }
        return costByHand();
    }

    public int middle() throws IllegalStateException {
        if (heaps.size == 0) {
            throw new IllegalStateException("no heaps");
        }
        int middle = 0;
        int best = costOfAllTo(0);
        for (int place = 1; place <= LAST_PLACE; place++) {
            int cost = costOfAllTo(place);
            if (cost < best) {
                best = cost;
                middle = place;
            }
        }
        return middle;
    }

    public int about(boolean isHole, int number, int what)
            throws IndexOutOfBoundsException, IllegalArgumentException {
        checkNumber(isHole, number);
        checkRange(what, 0, 2);
        if (what == 0) {
            return side(isHole).places[number];
        }
        if (what == 1) {
            return side(isHole).amounts[number];
        }
        return isHole ? handTo(number) : handFrom(number);
    }

    public int count(int what) throws IllegalArgumentException {
        checkRange(what, 0, 6);
        switch (what) {
            case 0: return heaps.size;
            case 1: return holes.size;
            case 2: return measureNow;
            case 3: return ringLength;
            case 4: return lostPrice;
            case 5: return missingPrice;
            default: return sum(planned().carriedUnits);
        }
    }

    // ---- what the arguments may be

    private static void checkRange(int value, int from, int to) {
        if (value < from || value > to) {
            throw new IllegalArgumentException("out of range");
        }
    }

    private static void checkPlaceAndAmount(int place, int amount) {
        checkRange(place, 0, LAST_PLACE);
        checkRange(amount, 1, MOST_AMOUNT);
    }

    private void checkNumber(boolean isHole, int number) {
        if (!side(isHole).holds(number)) {
            throw new IndexOutOfBoundsException("no such heap or hole");
        }
    }

    private void checkWay(int heap, int hole) {
        checkNumber(false, heap);
        checkNumber(true, hole);
    }

    // ---- heaps, holes, ways

    private int addTo(Side side, int place, int amount) {
        checkPlaceAndAmount(place, amount);
        if (side.isFull()) {
            throw new IllegalStateException("no more than 5");
        }
        isPlanned = false;
        return side.add(place, amount);
    }

    private Side side(boolean isHole) {
        return isHole ? holes : heaps;
    }

    private static int wayOf(int heap, int hole) {
        return heap * MOST + hole;
    }

    private static int tell(int[] row, int way, int number) {
        int before = row[way];
        row[way] = number;
        return before;
    }

    private static int sum(int[] row) {
        int sum = 0;
        for (int number : row) {
            sum += number;
        }
        return sum;
    }

    private int unitCost(int heap, int hole) {
        int own = owns[wayOf(heap, hole)];
        return own != NONE ? own : measured(heaps.places[heap], holes.places[hole]);
    }

    private int measured(int from, int to) {
        int apart = Math.abs(from - to);
        if (measureNow == SQUARE) {
            return apart * apart;
        }
        if (measureNow == LINE || ringLength < 1) {
            return apart;
        }
        int rest = apart % ringLength;
        return Math.min(rest, ringLength - rest);
    }

    private int costOfAllTo(int place) {
        int cost = 0;
        for (int heap = 0; heap < heaps.size; heap++) {
            cost += heaps.amounts[heap] * measured(heaps.places[heap], place);
        }
        return cost;
    }

    // ---- plans

    private Plan planned() {
        if (!isPlanned) {
            layOut(leastPlan);
            leastPlan.improve();
            isPlanned = true;
        }
        return leastPlan;
    }

    private void layOut(Plan plan) {
        plan.begin(lostPrice, missingPrice);
        for (int heap = 0; heap < heaps.size; heap++) {
            plan.letStay(heap, heaps.amounts[heap]);
        }
        for (int hole = 0; hole < holes.size; hole++) {
            plan.letLack(hole, holes.amounts[hole]);
        }
        for (int heap = 0; heap < heaps.size; heap++) {
            for (int hole = 0; hole < holes.size; hole++) {
                plan.open(wayOf(heap, hole), unitCost(heap, hole), caps[wayOf(heap, hole)]);
            }
        }
    }

    private int heapPrice(int heap) {
        layOut(otherPlan);
        otherPlan.letStay(heap, 1);
        otherPlan.improve();
        return otherPlan.cost - planned().cost;
    }

    private int holePrice(int hole) {
        layOut(otherPlan);
        otherPlan.letLack(hole, -1);
        otherPlan.improve();
        return planned().cost - otherPlan.cost;
    }

    private int tollOf(int heap, int hole, int heapPrice, int holePrice) {
        if (caps[wayOf(heap, hole)] == NONE) {
            return 0;
        }
        return Math.max(0, heapPrice + holePrice - unitCost(heap, hole));
    }

    private boolean isTooMuchToTry() {
        int tries = 1;
        for (int heap = 0; heap < heaps.size; heap++) {
            for (int hole = 0; hole < holes.size; hole++) {
                int most = Math.min(heaps.amounts[heap], holes.amounts[hole]);
                int cap = caps[wayOf(heap, hole)];
                tries *= (cap == NONE ? most : Math.min(most, cap)) + 1;
                if (tries > MOST_TRIED) {
                    return true;
                }
            }
        }
        return false;
    }

    // ---- by order

    private boolean canGoByOrder() {
        if (measureNow == SQUARE || sum(heaps.amounts) != sum(holes.amounts)) {
            return false;
        }
        for (int way = 0; way < WAYS; way++) {
            if (owns[way] != NONE || caps[way] != NONE) {
                return false;
            }
        }
        return true;
    }

    private void fillSurpluses(int places) {
        Arrays.fill(surpluses, 0);
        for (int heap = 0; heap < heaps.size; heap++) {
            addSurplus(heaps.places[heap], heaps.amounts[heap], places);
        }
        for (int hole = 0; hole < holes.size; hole++) {
            addSurplus(holes.places[hole], -holes.amounts[hole], places);
        }
    }

    private void addSurplus(int place, int units, int places) {
        int first = measureNow == RING && ringLength > 0 ? place % ringLength : place;
        for (int k = first; k < places && k < MOST_LENGTH; k++) {
            surpluses[k] += units;
        }
    }

    private int sizesOff(int off, int places) {
        int sizes = 0;
        for (int k = 0; k < places && k < MOST_LENGTH; k++) {
            sizes += Math.abs(surpluses[k] - off);
        }
        return sizes;
    }

    // ---- by hand

    private int handFrom(int heap) {
        int units = 0;
        for (int hole = 0; hole < holes.size; hole++) {
            units += hand[wayOf(heap, hole)];
        }
        return units;
    }

    private int handTo(int hole) {
        int units = 0;
        for (int heap = 0; heap < heaps.size; heap++) {
            units += hand[wayOf(heap, hole)];
        }
        return units;
    }

    private int faultByHand() {
        for (int heap = 0; heap < heaps.size; heap++) {
            if (handFrom(heap) > heaps.amounts[heap]) {
                return 1;
            }
        }
        for (int hole = 0; hole < holes.size; hole++) {
            if (handTo(hole) > holes.amounts[hole]) {
                return 2;
            }
        }
        for (int way = 0; way < WAYS; way++) {
            if (caps[way] != NONE && hand[way] > caps[way]) {
                return 3;
            }
        }
        return 0;
    }

    private int costByHand() {
        int cost = 0;
        for (int heap = 0; heap < heaps.size; heap++) {
            cost += lostPrice * (heaps.amounts[heap] - handFrom(heap));
        }
        for (int hole = 0; hole < holes.size; hole++) {
            cost += missingPrice * (holes.amounts[hole] - handTo(hole));
        }
        for (int heap = 0; heap < heaps.size; heap++) {
            for (int hole = 0; hole < holes.size; hole++) {
                cost += hand[wayOf(heap, hole)] * unitCost(heap, hole);
            }
        }
        return cost;
    }

    /** Heaps and holes are told alike, so one class keeps either. */
    private static final class Side {
        final int[] places;
        final int[] amounts;
        int size;

        Side() {
            places = new int[MOST];
            amounts = new int[MOST];
            size = 0;
        }

        boolean isFull() {
            return size >= MOST;
        }

        boolean holds(int number) {
            return number >= 0 && number < size;
        }

        int add(int place, int amount) {
            if (isFull()) {
                return NONE;
            }
            places[size] = place;
            amounts[size] = amount;
            size++;
            return size - 1;
        }
    }

    /** Its rows are made once and laid out anew for each question, so that no call makes an object. */
    private static final class Plan {
        /** Far above any path, and far enough below the greatest long to add to. */
        private static final long UNREACHED = 1L << 60;
        /** No hole ever wants more, so this is as good as no bound. */
        private static final int UNBOUNDED = MOST_AMOUNT;

        final int[] stays;
        final int[] lacks;
        final int[] carriedUnits;
        final int[] room;
        int cost;
        private final int[] opened;
        private final int[] unitCosts;
        private final long[] ranks;
        private final long[] heapPaths;
        private final long[] holePaths;
        private final int[] heapsFrom;
        private final int[] holesFrom;
        private int openedWays;
        private int lost;
        private int missing;

        Plan() {
            stays = new int[MOST];
            lacks = new int[MOST];
            carriedUnits = new int[WAYS];
            room = new int[WAYS];
            cost = 0;
            opened = new int[WAYS];
            unitCosts = new int[WAYS];
            ranks = new long[WAYS];
            heapPaths = new long[MOST];
            holePaths = new long[MOST];
            heapsFrom = new int[MOST];
            holesFrom = new int[MOST];
            openedWays = 0;
            lost = 0;
            missing = 0;
        }

        void begin(int lostPrice, int missingPrice) {
            Arrays.fill(stays, 0);
            Arrays.fill(lacks, 0);
            Arrays.fill(carriedUnits, 0);
            Arrays.fill(room, 0);
            cost = 0;
            openedWays = 0;
            lost = lostPrice;
            missing = missingPrice;
        }

        void letStay(int heap, int units) {
            stays[heap] += units;
            cost += units * lost;
        }

        void letLack(int hole, int units) {
            lacks[hole] += units;
            cost += units * missing;
        }

        /**
         * The rank of a way is its cost with a bonus below one cost unit, twice that of the next way. No path or
         * circle uses a way twice, so the first way in which two plans of one cost differ outweighs all later ones:
         * by ranks, the least plan has no equal.
         */
        void open(int way, int unitCost, int cap) {
            if (cap != 0 && openedWays < WAYS) {
                opened[openedWays] = way;
                openedWays++;
            }
            room[way] = cap == NONE ? UNBOUNDED : cap;
            unitCosts[way] = unitCost;
            ranks[way] = ((long) unitCost << WAYS) - (1L << (WAYS - 1 - way));
        }

        /** Each path is the best there is, so no later one is better: the first that saves nothing ends it. */
        void improve() {
            boolean isBetter = true;
            for (int paths = 0; isBetter && paths <= MOST_UNITS + 1; paths++) {
                findPaths();
                int hole = nearestHole();
                isBetter = hole != NONE && carryAlongPath(hole, roomOnPath(hole));
            }
        }

        /** Less on a way never breaks a plan, so counting up, last way first, passes every plan once. */
        boolean turnToNext() {
            for (int k = openedWays - 1; k >= 0; k--) {
                int way = opened[k];
                int heap = way / MOST;
                int hole = way % MOST;
                if (room[way] > 0 && stays[heap] > 0 && lacks[hole] > 0) {
                    move(heap, hole, 1);
                    return true;
                }
                move(heap, hole, -carriedUnits[way]);
            }
            return false;
        }

        private void move(int heap, int hole, int units) {
            int way = wayOf(heap, hole);
            carriedUnits[way] += units;
            room[way] -= units;
            stays[heap] -= units;
            lacks[hole] -= units;
            cost += units * (unitCosts[way] - lost - missing);
        }

        private void findPaths() {
            for (int heap = 0; heap < MOST; heap++) {
                heapPaths[heap] = stays[heap] > 0 ? 0 : UNREACHED;
                heapsFrom[heap] = NONE;
            }
            Arrays.fill(holePaths, UNREACHED);
            Arrays.fill(holesFrom, NONE);
            boolean isNew = true;
            for (int round = 0; isNew && round <= MOST; round++) {
                reachHoles();
                isNew = reachHeaps();
            }
        }

        private void reachHoles() {
            for (int k = 0; k < openedWays; k++) {
                int way = opened[k];
                int heap = way / MOST;
                int hole = way % MOST;
                if (room[way] > 0 && heapPaths[heap] < UNREACHED
                        && heapPaths[heap] + ranks[way] < holePaths[hole]) {
                    holePaths[hole] = heapPaths[heap] + ranks[way];
                    holesFrom[hole] = heap;
                }
            }
        }

        /** A heap whose unit is turned back from a hole has that unit to carry elsewhere. */
        private boolean reachHeaps() {
            boolean isNew = false;
            for (int k = 0; k < openedWays; k++) {
                int way = opened[k];
                int heap = way / MOST;
                int hole = way % MOST;
                if (carriedUnits[way] > 0 && holePaths[hole] < UNREACHED
                        && holePaths[hole] - ranks[way] < heapPaths[heap]) {
                    heapPaths[heap] = holePaths[hole] - ranks[way];
                    heapsFrom[heap] = hole;
                    isNew = true;
                }
            }
            return isNew;
        }

        /** No ranks are set for staying and lacking: a path that costs just as much is judged by its ways alone. */
        private int nearestHole() {
            int nearest = NONE;
            long best = (long) (lost + missing) << WAYS;
            for (int hole = 0; hole < MOST; hole++) {
                if (lacks[hole] > 0 && holePaths[hole] < best) {
                    best = holePaths[hole];
                    nearest = hole;
                }
            }
            return nearest;
        }

        private int roomOnPath(int lastHole) {
            int units = lacks[lastHole];
            int hole = lastHole;
            for (int step = 0; step < MOST; step++) {
                int heap = holesFrom[hole];
                if (heap == NONE) {
                    return 0;
                }
                units = Math.min(units, room[wayOf(heap, hole)]);
                hole = heapsFrom[heap];
                if (hole == NONE) {
                    return Math.min(units, stays[heap]);
                }
                units = Math.min(units, carriedUnits[wayOf(heap, hole)]);
            }
            return 0;
        }

        private boolean carryAlongPath(int lastHole, int units) {
            int hole = lastHole;
            for (int step = 0; step < MOST && units > 0; step++) {
                int heap = holesFrom[hole];
                if (heap == NONE) {
                    return false;
                }
                move(heap, hole, units);
                hole = heapsFrom[heap];
                if (hole == NONE) {
                    return true;
                }
                move(heap, hole, -units);
            }
            return false;
        }
    }
}
