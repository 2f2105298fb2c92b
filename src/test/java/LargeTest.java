import java.util.Arrays;
import java.util.Random;

/** Networks as large as levels and plans are told of, against all of their rows. */
final class LargeTest {
    private final int m;
    private final int n;
    private final LampPresses x;
    private final int total;
    /** For each way the fewest presses to it, or -2. */
    private final int[] levels;
    private final int[] rowTo;

    private LargeTest(int m, int n, LampPresses x) {
        this.m = m;
        this.n = n;
        this.x = x;
        total = (int) Math.round(Math.pow(m, n));
        levels = new int[total];
        rowTo = new int[total];
    }

    public static void main(String[] args) {
        Random random = new Random(11);
        int[][] sizes = {{3, 10}, {5, 6}, {2, 10}, {3, 9}, {3, 8}, {5, 5}};
        for (int run = 0; run < 120 && !Check.hasFailed(); run++) {
            int[] size = sizes[run % sizes.length];
            LampPresses x = Tapes.of("states " + size[0] + ";" + "lamp 0;".repeat(size[1]));
            if (run % 4 == 3) {
                lowRank(random, x, size[0], size[1]);
            } else {
                scatter(random, x, size[0], size[1], run % 4);
            }
            new LargeTest(size[0], size[1], x).compare(random);
        }
        int[][] small = {{3, 6}, {5, 4}, {2, 8}, {3, 5}};
        for (int run = 0; run < 4000 && !Check.hasFailed(); run++) {
            int[] size = small[run % small.length];
            LampPresses x = Tapes.of("states " + size[0] + ";" + "lamp 0;".repeat(size[1]));
            lowRank(random, x, size[0], size[1]);
            LargeTest test = new LargeTest(size[0], size[1], x);
            test.fillLevels();
            test.comparePlans();
            test.compareFar();
        }
        Check.end();
    }

    private static void scatter(Random random, LampPresses x, int m, int n, int kind) {
        if (kind == 1 && n > 2) {
            x.lay(random.nextInt(2) * 2 + 1, n, 1);
        }
        for (int k = 0; k < n * kind; k++) {
            x.wire(random.nextInt(n), random.nextInt(n), random.nextInt(m));
            x.own(random.nextInt(n), random.nextInt(m));
        }
        for (int i = 0; i < n; i++) {
            x.show(i, random.nextInt(m));
            x.goal(i, random.nextInt(m));
        }
    }

    /** Each step is a product of two numbers, or two such sums: so there are many quiet rows. */
    private static void lowRank(Random random, LampPresses x, int m, int n) {
        int[][] v = new int[2][n];
        for (int i = 0; i < n; i++) {
            v[0][i] = random.nextInt(m);
            v[1][i] = random.nextInt(3) == 0 ? random.nextInt(m) : 0;
        }
        for (int i = 0; i < n; i++) {
            x.own(i, (v[0][i] * v[0][i] + v[1][i] * v[1][i]) % m);
            for (int j = 0; j < i; j++) {
                x.wire(i, j, (v[0][i] * v[0][j] + v[1][i] * v[1][j]) % m);
            }
        }
        for (int k = 0; k < 3; k++) {
            x.press(random.nextInt(n), 1 + random.nextInt(m));
        }
    }

    private void compare(Random random) {
        fillLevels();
        compareLevels();
        compareFar();
        compareLevelOf();
        comparePlans();
        x.press(random.nextInt(n), 1);
        x.show(random.nextInt(n), random.nextInt(m));
        fillLevels();
        compareFar();
        compareLevels();
        comparePlans();
    }

    private void fillLevels() {
        Arrays.fill(levels, -2);
        for (int code = 0; code < total; code++) {
            int[] row = digits(code);
            int way = 0;
            for (int i = 0; i < n; i++) {
                int shown = x.of(i, 0);
                for (int j = 0; j < n; j++) {
                    shown += row[j] * weights()[j * n + i];
                }
                way = way * m + shown % m;
            }
            int presses = Arrays.stream(row).sum();
            rowTo[code] = way;
            if (levels[way] == -2 || presses < levels[way]) {
                levels[way] = presses;
            }
        }
        held = null;
    }

    private int[] held;

    private int[] weights() {
        if (held == null) {
            held = new int[n * n];
            for (int i = 0; i < n * n; i++) {
                held[i] = x.weight(i / n, i % n);
            }
        }
        return held;
    }

    private int[] digits(int code) {
        int[] row = new int[n];
        int rest = code;
        for (int i = n - 1; i >= 0; i--) {
            row[i] = rest % m;
            rest /= m;
        }
        return row;
    }

    private void compareLevels() {
        int deepest = Arrays.stream(levels).max().getAsInt();
        Check.due("deepest", x.deepest(), deepest);
        for (int l = 0; l <= deepest + 1; l++) {
            int wanted = l;
            Check.due("level(" + l + ")", x.level(l), Arrays.stream(levels).filter(v -> v == wanted).count());
        }
        Check.due("ways", x.ways(), Arrays.stream(levels).filter(v -> v >= 0).count());
    }

    private void compareFar() {
        int deepest = Arrays.stream(levels).max().getAsInt();
        int first = 0;
        while (levels[first] != deepest) {
            first++;
        }
        int[] way = digits(first);
        for (int i = 0; i < n; i++) {
            Check.due("far(" + i + ")", x.far(i), way[i]);
        }
    }

    private void compareLevelOf() {
        for (int way = 0; way < total; way += total > 20000 ? 7 : 1) {
            Check.due("levelOf(" + way + ")", x.levelOf(way), levels[way]);
        }
    }

    private void comparePlans() {
        int goals = 0;
        for (int i = 0; i < n; i++) {
            goals = goals * m + x.of(i, 2);
        }
        int plans = 0;
        int[] first = null;
        int[] fewest = null;
        int[] sparest = null;
        for (int code = 0; code < total; code++) {
            if (rowTo[code] == goals) {
                int[] row = digits(code);
                plans++;
                first = first == null ? row : first;
                fewest = fewest == null || presses(row) < presses(fewest) ? row : fewest;
                sparest = sparest == null || lamps(row) < lamps(sparest) ? row : sparest;
            }
        }
        Check.due("plans", x.plans(), plans);
        Check.due("fewest", x.fewest(-1), plans == 0 ? -2 : presses(fewest));
        Check.due("sparest", x.sparest(-1), plans == 0 ? -2 : lamps(sparest));
        for (int i = 0; i < n; i++) {
            Check.due("plan(" + i + ")", x.plan(i), plans == 0 ? -2 : first[i]);
            Check.due("fewest(" + i + ")", x.fewest(i), plans == 0 ? -2 : fewest[i]);
            Check.due("sparest(" + i + ")", x.sparest(i), plans == 0 ? -2 : sparest[i]);
        }
    }

    private static int presses(int[] row) {
        return Arrays.stream(row).sum();
    }

    private static int lamps(int[] row) {
        return (int) Arrays.stream(row).filter(v -> v > 0).count();
    }
}
