/** Counts answers, tells the wrong ones, and ends with exit code 1 if there was one. */
final class Check {
    private static int passed;
    private static int failed;

    private Check() {
    }

    static void due(String call, long got, long want) {
        if (got == want) {
            passed++;
            return;
        }
        failed++;
        if (failed <= 40) {
            System.out.println(call + " answered " + got + ", due is " + want);
        }
    }

    static void due(String call, boolean got, boolean want) {
        due(call, got ? 1 : 0, want ? 1 : 0);
    }

    static void due(String call, String got, String want) {
        if (!got.equals(want)) {
            System.out.println(call + " answered \"" + got + "\", due is \"" + want + "\"");
        }
        due(call + " (as a text)", got.equals(want), true);
    }

    static boolean hasFailed() {
        return failed > 0;
    }

    static void end() {
        System.out.println(passed + " passed, " + failed + " failed");
        if (failed > 0 || passed == 0) {
            System.exit(1);
        }
    }
}
