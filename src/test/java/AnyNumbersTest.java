import java.lang.reflect.InvocationTargetException;
import java.lang.reflect.Method;
import java.lang.reflect.Modifier;

/** No call throws or fails to end, for any numbers, with no lamps and with as many as there can be. */
final class AnyNumbersTest {
    private static final int[] NUMBERS = {Integer.MIN_VALUE, -2, -1, 0, 1, 2, 3, 4, 5, 6, 7, 8, 9, 10, 11, 20, 21,
        40, 41, 1023, 1024, 59048, 59049, 9765624, 9765625, Integer.MAX_VALUE};

    private AnyNumbersTest() {
    }

    public static void main(String[] args) throws Exception {
        String[] texts = {"", "states 5;", "lamp 1;", "states 3;lamp 2;lamp 1;wire 0 1 by 2;", full(2), full(3), full(5),
            "states 5;" + "lamp 3 own 0;".repeat(10), "states 3;" + "lamp 1 own 0 goal 1;".repeat(10)};
        for (String text : texts) {
            for (Method method : LampPresses.class.getDeclaredMethods()) {
                if (Modifier.isPublic(method.getModifiers()) && !method.getName().equals("feed")) {
                    callAll(text, method);
                }
            }
        }
        for (int number : NUMBERS) {
            LampPresses x = new LampPresses();
            Check.due("feed", x.feed(number, number, number, number, number), 20);
            Check.due("text", x.text() <= -4, true);
        }
        for (String text : texts) {
            allBehindAll(text);
        }
        Check.end();
    }

    /** Ten lamps, each wired to all others. */
    private static String full(int m) {
        StringBuilder text = new StringBuilder("states " + m + ";");
        for (int i = 0; i < 10; i++) {
            text.append("lamp ").append(i % m).append(";");
        }
        for (int i = 0; i < 10; i++) {
            for (int j = 0; j < i && text.length() < 486; j++) {
                int weight = 1 + (i * j + i) % (m - 1);
                text.append("wire ").append(i).append(" ").append(j);
                text.append(weight == 1 ? ";" : " by " + weight + ";");
            }
        }
        return text.toString();
    }

    private static void callAll(String text, Method method) throws Exception {
        LampPresses x = Tapes.of(text);
        int size = method.getParameterCount();
        int all = (int) Math.round(Math.pow(NUMBERS.length, size));
        for (int code = 0; code < all; code++) {
            Object[] numbers = new Object[size];
            int rest = code;
            for (int i = 0; i < size; i++) {
                numbers[i] = NUMBERS[rest % NUMBERS.length];
                rest /= NUMBERS.length;
            }
            call(x, method, numbers);
        }
    }

    private static void call(LampPresses x, Method method, Object... numbers) throws Exception {
        boolean answered = true;
        try {
            method.invoke(x, numbers);
        } catch (InvocationTargetException thrown) {
            answered = false;
            System.out.println(method.getName() + " threw " + thrown.getCause());
        }
        Check.due(method.getName() + java.util.Arrays.toString(numbers) + " answers", answered, true);
    }

    /** Each act ahead of each question: what was reckoned ahead of the act must not be told behind it. */
    private static void allBehindAll(String text) throws Exception {
        for (Method act : LampPresses.class.getDeclaredMethods()) {
            if (!Modifier.isPublic(act.getModifiers()) || act.getParameterCount() > 3) {
                continue;
            }
            LampPresses asked = Tapes.of(text);
            String ahead = answers(asked);
            Object[] numbers = act.getName().equals("lay") ? new Object[] {0, 6, 1} : ones(act.getParameterCount());
            act.invoke(asked, numbers);
            LampPresses told = Tapes.of(Tapes.spelled(asked).length() <= 500 ? Tapes.spelled(asked) : "");
            if (told.count(1) == asked.count(1)) {
                Check.due(act.getName() + " behind " + text, answers(asked), answers(told));
            }
            if (asked.count(3) > 0) {
                asked.undo();
                Check.due(act.getName() + " undone, behind " + text, answers(asked), ahead);
            }
        }
    }

    private static Object[] ones(int size) {
        Object[] numbers = {0, 1, 1};
        return size == 1 ? new Object[] {1} : java.util.Arrays.copyOf(numbers, size);
    }

    private static String answers(LampPresses x) {
        StringBuilder all = new StringBuilder();
        int[] plain = {x.rank(), x.quiet(), x.plans(), x.alones(), x.off(), x.parts(), x.hardest(), x.ways(), x.hub(),
            x.deepest(), x.level(1), x.level(2), x.level(3), x.mend(), x.even(), x.fewest(-1), x.sparest(-1),
            x.greedy(0), x.greedy(1), x.part(1), x.only(1), x.levelOf(0), x.levelOf(1)};
        for (int answer : plain) {
            all.append(answer).append(' ');
        }
        for (int i = 0; i < 10; i++) {
            int[] each = {x.base(0, i), x.base(1, i), x.plan(i), x.fewest(i), x.sparest(i), x.fixed(i), x.alone(i),
                x.far(i), x.cycle(i), x.without(i), x.byOwn(i, 0), x.byWire(i, 0, 0), x.after(i, 0), x.same(i, 0)};
            for (int answer : each) {
                all.append(answer).append(' ');
            }
        }
        return all + Tapes.spelled(x) + Tapes.reported(x);
    }
}
