import java.util.function.ToIntFunction;

/** Objects to begin a test with, and all that one answers, to see whether a call has changed anything. */
final class States {
    private States() {
    }

    static Heapcarrier nothing() {
        return new Heapcarrier();
    }

    /** 3 heaps and 2 holes, with something other than at first wherever something can be told. */
    static Heapcarrier some() {
        Heapcarrier x = PromiseTests.of(PromiseTests.row(0, 3, 10, 4, 60, 2), PromiseTests.row(4, 5, 20, 2));
        x.measure(Heapcarrier.RING, 30);
        x.own(0, 1, 7);
        x.cap(1, 0, 3);
        x.terms(40, 60);
        x.carry(0, 0, 2);
        x.carry(1, 1, 1);
        return x;
    }

    /** 5 heaps and 5 holes; too many plans to try, none by order, and what is told by hand is no plan. */
    static Heapcarrier full() {
        Heapcarrier x = PromiseTests.of(PromiseTests.row(0, 20, 25, 1, 50, 7, 75, 13, 100, 20),
                PromiseTests.row(100, 20, 75, 20, 50, 1, 25, 5, 0, 9));
        x.own(4, 0, 2);
        x.cap(4, 4, 3);
        x.terms(30, 40);
        x.carry(4, 4, 9);
        return x;
    }

    private static void ask(StringBuilder all, String call, Heapcarrier x, ToIntFunction<Heapcarrier> question) {
        all.append(call).append('=').append(Check.answer(() -> question.applyAsInt(x))).append(' ');
    }

    private static void askWhole(StringBuilder all, Heapcarrier x) {
        for (int what = 0; what <= 6; what++) {
            int number = what;
            ask(all, "count" + what, x, y -> y.count(number));
        }
        ask(all, "least", x, Heapcarrier::least);
        ask(all, "leastAnew", x, Heapcarrier::leastAnew);
        ask(all, "proof", x, Heapcarrier::proof);
        ask(all, "order", x, Heapcarrier::order);
        ask(all, "whyNot", x, Heapcarrier::whyNot);
        ask(all, "handCost", x, Heapcarrier::handCost);
        ask(all, "middle", x, Heapcarrier::middle);
    }

    private static void askSide(StringBuilder all, Heapcarrier x, boolean isHole) {
        for (int k = 0; k < x.count(isHole ? 1 : 0); k++) {
            int number = k;
            String one = (isHole ? "hole" : "heap") + k;
            ask(all, one + ".left", x, y -> y.left(isHole, number));
            ask(all, one + ".price", x, y -> y.price(isHole, number));
            ask(all, one + ".place", x, y -> y.about(isHole, number, 0));
            ask(all, one + ".amount", x, y -> y.about(isHole, number, 1));
            ask(all, one + ".hand", x, y -> y.about(isHole, number, 2));
        }
    }

    private static void askWay(StringBuilder all, Heapcarrier x, int heap, int hole) {
        String way = "way" + heap + hole;
        ask(all, way + ".unit", x, y -> y.unit(heap, hole));
        ask(all, way + ".carried", x, y -> y.carried(heap, hole));
        ask(all, way + ".toll", x, y -> y.toll(heap, hole));
        ask(all, way + ".without", x, y -> y.without(heap, hole));
    }

    /** All questions that change nothing, at most 165 calls. */
    static String answers(Heapcarrier x) {
        StringBuilder all = new StringBuilder();
        askWhole(all, x);
        askSide(all, x, false);
        askSide(all, x, true);
        for (int heap = 0; heap < x.count(0); heap++) {
            for (int hole = 0; hole < x.count(1); hole++) {
                askWay(all, x, heap, hole);
            }
        }
        return all.toString();
    }

    /** Those answers, and what was told of the ways; the object is used up by it, as that is read by telling. */
    static String everything(Heapcarrier x) {
        StringBuilder all = new StringBuilder(answers(x));
        for (int k = 0; k < x.count(0); k++) {
            for (int n = 0; n < x.count(1); n++) {
                int heap = k;
                int hole = n;
                ask(all, "own" + heap + hole, x, y -> y.own(heap, hole, Heapcarrier.NONE));
                ask(all, "cap" + heap + hole, x, y -> y.cap(heap, hole, Heapcarrier.NONE));
                ask(all, "hand" + heap + hole, x, y -> y.carry(heap, hole, 0));
            }
        }
        // The lost price is told by count already; to tell it once more shows that it can still be told.
        ask(all, "terms", x, y -> y.terms(0, 0));
        ask(all, "measure", x, y -> y.measure(Heapcarrier.LINE, 0));
        return all.toString();
    }
}
