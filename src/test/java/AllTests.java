import java.util.LinkedHashMap;
import java.util.Map;
import java.util.function.Consumer;

/** Runs all tests of the project; exit code 1 if one failed. */
public final class AllTests {
    public static void main(String[] args) {
        Map<String, Consumer<Check>> tests = new LinkedHashMap<>();
        PromiseTests.addTo(tests);
        ArgumentEdges.addTo(tests);
        CostEdges.addTo(tests);
        PlanEdges.addTo(tests);
        OrderAndHandEdges.addTo(tests);
        CallEdges.addTo(tests);
        ReadmeTests.addTo(tests);
        FaceTests.addTo(tests);
        RandomRuns.addTo(tests);
        LargePlans.addTo(tests);
        int passed = 0;
        int failed = 0;
        for (Map.Entry<String, Consumer<Check>> test : tests.entrySet()) {
            if (passes(test.getKey(), test.getValue())) {
                passed++;
            } else {
                failed++;
            }
        }
        System.out.println("project: " + passed + " passed, " + failed + " failed");
        System.exit(failed == 0 && passed > 0 ? 0 : 1);
    }

    private static boolean passes(String name, Consumer<Check> test) {
        Check check = new Check();
        try {
            test.accept(check);
        } catch (RuntimeException e) {
            check.same("the test's own end", e.toString(), "no exception");
        }
        System.out.println((check.wrong() == 0 ? "passed " : "FAILED ") + name);
        return check.wrong() == 0;
    }
}
