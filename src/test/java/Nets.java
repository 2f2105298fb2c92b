/** Networks and numbers that many boundary cases share. */
final class Nets {
    static final int LEAST = Integer.MIN_VALUE;
    static final int GREATEST = Integer.MAX_VALUE;
    static final int[] STATES = {2, 3, 5};

    private Nets() {
    }

    static String lamps(int n) {
        return "lamp 0;".repeat(n);
    }

    /** Lamps without wires that show their goals. */
    static Run apart(int m, int n) {
        return Run.of("states " + m + ";" + lamps(n));
    }

    /** Lamps that can't be changed, and show their goals: each row is a plan. */
    static Run still(int m, int n) {
        return Run.of("states " + m + ";" + "lamp 0 own 0;".repeat(n));
    }

    /** Lamps that can't be changed, and do not show their goals: there is no plan. */
    static Run lost(int m, int n) {
        return Run.of("states " + m + ";" + "lamp 1 own 0;".repeat(n));
    }

    static Run laid(int m, int kind, int a) {
        return Run.of("states " + m + ";").then(x -> x.lay(kind, a, 1));
    }

    static int power(int m, int n) {
        int product = 1;
        for (int i = 0; i < n; i++) {
            product *= m;
        }
        return product;
    }

    /** Numbers next to 0 .. n less 1, and far from them; none lies within. */
    static int[] outOf(int n) {
        return new int[] {-1, n, -2, -3, n + 1, n + 16, n + 32, -n - 1, LEAST, GREATEST};
    }
}
