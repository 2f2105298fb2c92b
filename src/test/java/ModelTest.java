import java.lang.reflect.Method;
import java.lang.reflect.Modifier;
import java.util.ArrayList;
import java.util.Arrays;
import java.util.Comparator;
import java.util.List;
import java.util.Random;

/** Long runs of calls, the same on every machine, on the class and on the slow lamps side by side. */
final class ModelTest {
    private static final List<String> ACTS = List.of("lamp", "drop", "wire", "own", "goal", "show", "press",
        "aim", "solve", "lay", "swap", "lift", "scale", "mirror", "undo");

    private final Random random;
    private final int most;
    private LampPresses fast;
    private SlowLamps slow;
    private final List<String> calls = new ArrayList<>();
    private static final List<Method> METHODS = new ArrayList<>();

    private ModelTest(long seed, int most) {
        random = new Random(seed);
        this.most = most;
    }

    public static void main(String[] args) throws Exception {
        for (Method method : LampPresses.class.getDeclaredMethods()) {
            if (Modifier.isPublic(method.getModifiers())) {
                METHODS.add(method);
            }
        }
        METHODS.sort(Comparator.comparing(Method::getName));
        int runs = args.length > 0 ? Integer.parseInt(args[0]) : 300;
        for (int seed = 0; seed < runs && !Check.hasFailed(); seed++) {
            new ModelTest(seed, seed % 25 == 0 ? 2200 : 260).run(seed % 25 == 0 ? 120 : 500);
        }
        texts(runs * 100);
        Check.end();
    }

    private void run(int length) throws Exception {
        fast = new LampPresses();
        slow = new SlowLamps();
        for (int i = 0; i < length && !Check.hasFailed(); i++) {
            int dice = random.nextInt(100);
            if (i == 0 || dice < 2) {
                tellText();
            } else if (dice < 35) {
                call(ACTS.get(random.nextInt(ACTS.size())));
            } else {
                call(METHODS.get(random.nextInt(METHODS.size())).getName());
            }
            stayWithinReach();
        }
    }

    /** Slow lamps try all rows: there must not be too many. */
    private void stayWithinReach() throws Exception {
        while (Math.pow(slow.m(), slow.n()) > most) {
            both("drop", random.nextInt(slow.n()));
        }
    }

    private void call(String name) throws Exception {
        for (Method method : METHODS) {
            if (method.getName().equals(name) && !name.equals("text")) {
                Object[] numbers = new Object[method.getParameterCount()];
                for (int i = 0; i < numbers.length; i++) {
                    numbers[i] = number(name, i);
                }
                if (name.equals("lay") && random.nextInt(6) > 0) {
                    boolean grid = random.nextBoolean();
                    numbers = grid ? new Object[] {2, 1 + random.nextInt(3), 1 + random.nextInt(3)}
                        : new Object[] {random.nextInt(5), 1 + random.nextInt(6), 1};
                }
                both(name, numbers);
            }
        }
    }

    private int number(String name, int i) {
        int dice = random.nextInt(60);
        if (dice == 0) {
            return random.nextInt();
        }
        if (dice == 1) {
            return random.nextBoolean() ? Integer.MAX_VALUE : Integer.MIN_VALUE;
        }
        switch (name) {
            case "part":
            case "only":
                return random.nextInt((1 << slow.n()) + 1);
            case "levelOf":
                return random.nextInt((int) Math.pow(slow.m(), slow.n()) + 1);
            case "spell":
            case "report":
                return random.nextInt(60) - 2;
            case "back":
                return random.nextInt(25) - 1;
            case "level":
                return random.nextInt(14) - 1;
            case "press":
                return i == 1 ? random.nextInt(11) : lampNumber();
            case "count":
            case "of":
                return i == 0 && name.equals("of") ? lampNumber() : random.nextInt(10) - 1;
            case "book":
                return i == 0 ? random.nextInt(22) - 1 : random.nextInt(3);
            case "lamp":
            case "lift":
            case "scale":
                return random.nextInt(slow.m() + 2) - 1;
            case "own":
            case "goal":
            case "show":
            case "byOwn":
                return i == 0 ? lampNumber() : random.nextInt(slow.m() + 2) - 1;
            case "wire":
            case "byWire":
                return i < 2 ? lampNumber() : random.nextInt(slow.m() + 2) - 1;
            default:
                return lampNumber();
        }
    }

    private int lampNumber() {
        int n = slow.n();
        return n == 0 || random.nextInt(8) == 0 ? random.nextInt(n + 3) - 1 : random.nextInt(n);
    }

    private void both(String name, Object... numbers) throws Exception {
        Class<?>[] kinds = new Class<?>[numbers.length];
        Arrays.fill(kinds, int.class);
        calls.add(name + Arrays.toString(numbers));
        Object got = LampPresses.class.getDeclaredMethod(name, kinds).invoke(fast, numbers);
        Object want = SlowLamps.class.getDeclaredMethod(name, kinds).invoke(slow, numbers);
        Check.due(name, asLong(got), asLong(want));
        if (Check.hasFailed()) {
            System.out.println("behind the calls " + calls);
        }
    }

    private static long asLong(Object answer) {
        return answer instanceof Boolean ? (Boolean) answer ? 1 : 0 : (Integer) answer;
    }

    private void tellText() throws Exception {
        both("back", fast.count(4));
        String text = someText(random, most);
        if (random.nextInt(4) == 0) {
            text = spoilt(random, text);
        }
        for (int from = 0; from < text.length(); from += 20) {
            int[] w = Tapes.fed(text, from);
            both("feed", w[0], w[1], w[2], w[3], w[4]);
        }
        both("back", (20 - text.length() % 20) % 20);
        both("text");
    }

    // ---- texts alone, of which far more can be tried

    private static void texts(int runs) {
        Random random = new Random(7);
        LampPresses x = new LampPresses();
        for (int i = 0; i < runs; i++) {
            String text = someText(random, Integer.MAX_VALUE);
            for (int k = random.nextInt(3); k > 0; k--) {
                text = spoilt(random, text);
            }
            if (text.length() <= 500) {
                int fault = SlowReader.fault(text);
                int got = Tapes.told(x, text);
                Check.due("text() of " + text, got < 0 ? got : 0, fault < 0 ? 0 : -4 - fault);
            }
        }
    }

    private static String gap(Random random, boolean needed) {
        String found = needed ? random.nextInt(12) == 0 ? "\n" : " " : "";
        while (random.nextInt(9) == 0) {
            found += random.nextBoolean() ? " " : "\n";
        }
        return found;
    }

    private static String joined(Random random, String... words) {
        StringBuilder text = new StringBuilder(gap(random, false));
        for (int i = 0; i < words.length; i++) {
            text.append(i > 0 ? gap(random, !words[i].equals(";")) : "").append(words[i]);
        }
        return text.append(gap(random, false)).toString();
    }

    private static String someText(Random random, int most) {
        int m = new int[] {2, 3, 5}[random.nextInt(3)];
        StringBuilder text = new StringBuilder();
        if (m != 2 || random.nextBoolean()) {
            text.append(joined(random, "states", "" + m, ";"));
        }
        int n = random.nextInt(11);
        while (Math.pow(m, n) > most) {
            n--;
        }
        int lamps = 0;
        boolean dense = random.nextBoolean();
        for (int i = 0; i < n; i++) {
            List<String> words = new ArrayList<>(List.of("lamp", "" + random.nextInt(m)));
            if (random.nextInt(3) == 0) {
                words.addAll(List.of("own", "" + random.nextInt(m)));
            }
            if (random.nextInt(3) == 0) {
                words.addAll(List.of("goal", "" + random.nextInt(m)));
            }
            words.add(";");
            text.append(joined(random, words.toArray(new String[0])));
            lamps++;
            for (int j = 0; j < lamps - 1; j++) {
                if (random.nextInt(dense ? 2 : 4) == 0 && text.length() < 400) {
                    text.append(someWire(random, m, lamps - 1, j));
                }
            }
        }
        return text.length() <= 500 ? text.toString() : "";
    }

    private static String someWire(Random random, int m, int i, int j) {
        boolean turned = random.nextBoolean();
        String one = "" + (turned ? i : j);
        String two = "" + (turned ? j : i);
        return random.nextBoolean() ? joined(random, "wire", one, two, ";")
            : joined(random, "wire", one, two, "by", "" + (1 + random.nextInt(m - 1)), ";");
    }

    private static String spoilt(Random random, String text) {
        String signs = " \n;0123459abglmnorstwy\t\r\u0000\u00ffLA";
        String[] words = {"lamp 0;", "states 3;", "own 1 ", "goal 0 ", "by 1 ", "wire 0 1;", "lamp", "wire"};
        int at = random.nextInt(text.length() + 1);
        int end = Math.min(text.length(), at + random.nextInt(3));
        switch (random.nextInt(4)) {
            case 0:
                return text.substring(0, at) + text.substring(end);
            case 1:
                return text.substring(0, at) + signs.charAt(random.nextInt(signs.length())) + text.substring(at);
            case 2:
                return text.substring(0, at) + words[random.nextInt(words.length)] + text.substring(at);
            default:
                return text.substring(0, at);
        }
    }
}
