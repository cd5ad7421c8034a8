import java.util.Map;
import java.util.function.Consumer;
import java.util.function.LongSupplier;

/** Long runs of calls, good and bad ones, each answer compared with the model's. */
final class RandomRuns {
    private static final int CALLS = 512;

    private final Dice dice;
    private final Check check;
    private final Heapcarrier x = new Heapcarrier();
    private final Model model = new Model();
    private final int mostHeaps;
    private final int mostHoles;
    private final int mostAmount;
    private final int mostPlace;
    private final int mostCost;
    private int heaps = 0;
    private int holes = 0;

    private RandomRuns(Check check, long seed, int mostHeaps, int mostHoles, int mostAmount) {
        this.check = check;
        this.mostHeaps = mostHeaps;
        this.mostHoles = mostHoles;
        this.mostAmount = mostAmount;
        dice = new Dice(seed);
        mostPlace = dice.oneIn(2) ? 100 : dice.from(2, 12);
        mostCost = dice.oneIn(2) ? 10000 : dice.from(1, 20);
    }

    static void addTo(Map<String, Consumer<Check>> tests) {
        tests.put("random runs, up to 5 by 5 with small amounts", check -> all(check, 12, 5, 5, 2));
        tests.put("random runs, up to 3 by 3 with middling amounts", check -> all(check, 20, 3, 3, 6));
        tests.put("random runs, up to 5 by 2 with great amounts", check -> all(check, 20, 5, 2, 20));
        tests.put("random runs, up to 2 by 2 with great amounts", check -> all(check, 40, 2, 2, 20));
        tests.put("random runs, up to 5 by 5 with amounts of 1", check -> all(check, 20, 5, 5, 1));
    }

    private static void all(Check check, int runs, int mostHeaps, int mostHoles, int mostAmount) {
        for (int run = 0; run < runs && check.wrong() == 0; run++) {
            new RandomRuns(check, 1000L * mostAmount + run, mostHeaps, mostHoles, mostAmount).run();
        }
    }

    private void run() {
        for (int call = 0; call < CALLS && check.wrong() == 0; call++) {
            // What is told changes slowly, so that several questions meet the same state.
            if (call < 8 || dice.oneIn(4)) {
                tell();
            } else {
                ask();
            }
        }
    }

    private void compare(String call, LongSupplier program, LongSupplier due) {
        check.same(call, Check.answer(program), Check.answer(due));
    }

    /** Mostly a number that there is, sometimes one beside it. */
    private int number(int size) {
        return dice.oneIn(20) || size == 0 ? dice.from(-1, size) : dice.below(size);
    }

    private int value(int from, int to) {
        if (dice.oneIn(25)) {
            return dice.oneIn(2) ? from - 1 : to + 1;
        }
        return dice.oneIn(8) ? (dice.oneIn(2) ? from : to) : dice.from(from, to);
    }

    private void tell() {
        int heap = number(heaps);
        int hole = number(holes);
        switch (dice.below(10)) {
            case 0, 1 -> add(false);
            case 2, 3 -> add(true);
            case 4 -> alter();
            case 5 -> {
                int measure = value(0, 2);
                int length = dice.oneIn(3) ? value(1, 200) : value(1, 2 * mostPlace > 200 ? 200 : 2 * mostPlace);
                compare("measure", () -> x.measure(measure, length), () -> model.measure(measure, length));
            }
            case 6 -> {
                int cost = dice.oneIn(2) ? -1 : dice.oneIn(2) ? value(0, 10000) : value(0, mostCost);
                compare("own", () -> x.own(heap, hole, cost), () -> model.own(heap, hole, cost));
            }
            case 7 -> {
                int cap = dice.oneIn(2) ? -1 : dice.oneIn(3) ? value(0, 20) : value(0, mostAmount);
                compare("cap", () -> x.cap(heap, hole, cap), () -> model.cap(heap, hole, cap));
            }
            case 8 -> {
                int lost = dice.oneIn(2) ? value(0, 10000) : value(0, mostCost);
                int missing = dice.oneIn(2) ? value(0, 10000) : value(0, mostCost);
                compare("terms", () -> x.terms(lost, missing), () -> model.terms(lost, missing));
            }
            default -> {
                int units = dice.oneIn(4) ? value(0, 20) : value(0, mostAmount);
                compare("carry", () -> x.carry(heap, hole, units), () -> model.carry(heap, hole, units));
            }
        }
    }

    private void add(boolean isHole) {
        int size = isHole ? holes : heaps;
        // The model would take too long beyond these; that 5 are the most is met where 5 are allowed.
        if (size >= (isHole ? mostHoles : mostHeaps) && size < 5) {
            return;
        }
        int place = value(0, mostPlace);
        int amount = Math.min(value(1, mostAmount), 21);
        if (amount > mostAmount && amount <= 20) {
            return;
        }
        String got = Check.answer(() -> isHole ? x.hole(place, amount) : x.heap(place, amount));
        String due = Check.answer(() -> model.add(isHole, place, amount));
        check.same(isHole ? "hole" : "heap", got, due);
        if (!due.startsWith("throws")) {
            heaps += isHole ? 0 : 1;
            holes += isHole ? 1 : 0;
        }
    }

    private void alter() {
        boolean isHole = dice.oneIn(2);
        int number = number(isHole ? holes : heaps);
        int place = value(0, mostPlace);
        int amount = value(1, mostAmount);
        if (amount > mostAmount && amount <= 20) {
            return;
        }
        compare("alter", () -> x.alter(isHole, number, place, amount),
                () -> model.alter(isHole, number, place, amount));
    }

    private void ask() {
        int heap = number(heaps);
        int hole = number(holes);
        boolean isHole = dice.oneIn(2);
        int number = isHole ? hole : heap;
        switch (dice.below(18)) {
            case 0 -> compare("unit", () -> x.unit(heap, hole), () -> model.unit(heap, hole));
            case 1 -> compare("least", x::least, model::least);
            case 2, 3 -> compare("leastAnew", x::leastAnew, model::leastAnew);
            case 4, 5, 6 -> compare("carried", () -> x.carried(heap, hole), () -> model.carried(heap, hole));
            case 7 -> compare("left", () -> x.left(isHole, number), () -> model.left(isHole, number));
            case 8 -> compare("without", () -> x.without(heap, hole), () -> model.without(heap, hole));
            case 9 -> compare("price", () -> x.price(isHole, number), () -> model.price(isHole, number));
            case 10 -> compare("toll", () -> x.toll(heap, hole), () -> model.toll(heap, hole));
            case 11 -> {
                if (dice.oneIn(6)) {
                    compare("proof", x::proof, model::proof);
                    compare("proof beside the least cost", x::proof, model::least);
                }
            }
            case 12 -> order();
            case 13 -> {
                if (dice.oneIn(3)) {
                    compare("take", x::take, model::take);
                }
            }
            case 14 -> compare("whyNot", x::whyNot, model::whyNot);
            case 15 -> compare("handCost", x::handCost, model::handCost);
            case 16 -> compare("middle", x::middle, model::middle);
            default -> {
                int what = value(0, 6);
                compare("count", () -> x.count(what), () -> model.count(what));
                compare("about", () -> x.about(isHole, number, what), () -> model.about(isHole, number, what));
            }
        }
    }

    /** Amounts that fit all together are rare, so the last hole is altered to take up what is over. */
    private void balance() {
        int over = 0;
        for (int heap = 0; heap < heaps; heap++) {
            over += x.about(false, heap, 1);
        }
        for (int hole = 0; hole < holes - 1; hole++) {
            over -= x.about(true, hole, 1);
        }
        if (holes > 0 && over >= 1 && over <= mostAmount) {
            int last = holes - 1;
            int amount = over;
            int place = dice.from(0, mostPlace);
            compare("alter", () -> x.alter(true, last, place, amount), () -> model.alter(true, last, place, amount));
        }
    }

    private void freeWays() {
        for (int way = 0; way < heaps * holes; way++) {
            int heap = way / holes;
            int hole = way % holes;
            compare("own", () -> x.own(heap, hole, -1), () -> model.own(heap, hole, -1));
            compare("cap", () -> x.cap(heap, hole, -1), () -> model.cap(heap, hole, -1));
        }
    }

    private void order() {
        if (dice.oneIn(2)) {
            balance();
        }
        if (dice.oneIn(4)) {
            freeWays();
        }
        compare("order", x::order, model::order);
        if (!Check.answer(x::order).startsWith("throws")) {
            compare("order beside the least of all carried", x::order, model::leastOfAllCarried);
        }
    }
}
