import java.lang.reflect.Method;
import java.util.Arrays;
import java.util.Comparator;

/** Counts answers, tells the wrong ones, and ends with exit code 1 if there was one. */
final class Check {
    private static int passed;
    private static int failed;

    private Check() {
    }

    static void due(String call, long got, long want) {
        if (got == want) {
            passed++;
            return;
        }
        failed++;
        if (failed <= 40) {
            System.out.println(call + " answered " + got + ", due is " + want);
        }
    }

    static void due(String call, boolean got, boolean want) {
        due(call, got ? 1 : 0, want ? 1 : 0);
    }

    static void due(String call, String got, String want) {
        if (!got.equals(want)) {
            System.out.println(call + " answered \"" + got + "\", due is \"" + want + "\"");
        }
        due(call + " (as a text)", got.equals(want), true);
    }

    /**
     * Runs every method "promiseN.." of a class, a sentence of the document each, and tells those that fail.
     * Each promise from first to last must have one.
     */
    static void sentences(Class<?> tests, int first, int last) {
        Method[] all = Arrays.stream(tests.getDeclaredMethods())
            .filter(m -> m.getName().startsWith("promise") && m.getParameterCount() == 0)
            .sorted(Comparator.comparingInt(Check::promiseOf).thenComparing(Method::getName))
            .toArray(Method[]::new);
        int[] found = new int[last + 1];
        for (Method test : all) {
            int promise = promiseOf(test);
            due(test.getName() + " stands in its file", promise >= first && promise <= last, true);
            found[Math.max(0, Math.min(promise, last))]++;
            sentence(test);
        }
        for (int promise = first; promise <= last; promise++) {
            due("promise " + promise + " has a sentence", found[promise] > 0, true);
        }
        System.out.println(all.length + " sentences of promises " + first + " to " + last);
    }

    private static int promiseOf(Method test) {
        String digits = test.getName().substring("promise".length()).replaceAll("[^0-9].*", "");
        return digits.isEmpty() ? 0 : Integer.parseInt(digits);
    }

    private static void sentence(Method test) {
        int failedAhead = failed;
        int passedAhead = passed;
        try {
            test.invoke(null);
        } catch (ReflectiveOperationException e) {
            failed++;
            System.out.println(test.getName() + " did not end: " + e.getCause());
        }
        if (failed > failedAhead) {
            System.out.println("BROKEN: " + test.getDeclaringClass().getSimpleName() + "." + test.getName());
        }
        due(test.getName() + " has asked something", passed + failed > passedAhead + failedAhead, true);
    }

    static boolean hasFailed() {
        return failed > 0;
    }

    static void end() {
        System.out.println(passed + " passed, " + failed + " failed");
        if (failed > 0 || passed == 0) {
            System.exit(1);
        }
    }
}
