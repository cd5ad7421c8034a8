import java.util.function.LongSupplier;

/** Compares answers with those that are due, and keeps what was wrong in the test that runs now. */
final class Check {
    private int wrong = 0;

    int wrong() {
        return wrong;
    }

    /** What a call answers, as the issues write it: a number, or throws. and the exception's name. */
    static String answer(LongSupplier call) {
        try {
            return Long.toString(call.getAsLong());
        } catch (RuntimeException e) {
            return "throws." + e.getClass().getSimpleName();
        }
    }

    void is(long want, LongSupplier call) {
        same("answer", answer(call), Long.toString(want));
    }

    void noSuch(LongSupplier call) {
        same("answer", answer(call), "throws.IndexOutOfBoundsException");
    }

    void badArgument(LongSupplier call) {
        same("answer", answer(call), "throws.IllegalArgumentException");
    }

    void badState(LongSupplier call) {
        same("answer", answer(call), "throws.IllegalStateException");
    }

    void same(String what, String got, String want) {
        if (!got.equals(want)) {
            wrong++;
            if (wrong <= 10) {
                System.out.println("  " + where() + ": " + what + " is " + got + ", due is " + want);
            }
        }
    }

    void holds(String what, boolean holds) {
        same(what, holds ? "so" : "not so", "so");
    }

    private static String where() {
        for (StackTraceElement line : new Throwable().getStackTrace()) {
            if (!line.getClassName().equals("Check") && !line.getClassName().equals("Edges")) {
                return line.getFileName() + ":" + line.getLineNumber();
            }
        }
        return "?";
    }
}
