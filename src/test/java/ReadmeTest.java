import java.lang.reflect.Method;
import java.lang.reflect.Modifier;
import java.nio.file.Files;
import java.nio.file.Path;
import java.util.Arrays;
import java.util.regex.Matcher;
import java.util.regex.Pattern;

/** README.md: its calls answer what is written behind them, its text can be told, and it names every call. */
final class ReadmeTest {
    private static final Pattern CALL = Pattern.compile("(?m)^x\\.(\\w+)\\(([-0-9, ]*)\\); *// (-?\\d+):");
    private static final Pattern TEXT = Pattern.compile("(?s)```text\\n(.*?)\\n```");

    private ReadmeTest() {
    }

    public static void main(String[] args) throws Exception {
        String readme = Files.readString(Path.of("README.md"));
        calls(readme);
        texts(readme);
        names(readme);
        Check.end();
    }

    private static void calls(String readme) throws Exception {
        LampPresses x = new LampPresses();
        Matcher found = CALL.matcher(readme);
        int calls = 0;
        while (found.find()) {
            String[] words = found.group(2).isEmpty() ? new String[0] : found.group(2).split(", ");
            Object[] numbers = Arrays.stream(words).map(Integer::valueOf).toArray();
            Class<?>[] kinds = new Class<?>[numbers.length];
            Arrays.fill(kinds, int.class);
            Object got = LampPresses.class.getMethod(found.group(1), kinds).invoke(x, numbers);
            Check.due("README: " + found.group(), (Integer) got, Integer.parseInt(found.group(3)));
            calls++;
        }
        Check.due("README has calls", calls >= 5, true);
        Check.due("each of them has an answer", calls, readme.lines().filter(l -> l.startsWith("x.")).count());
    }

    private static void texts(String readme) {
        Matcher found = TEXT.matcher(readme);
        Check.due("README has a text", found.find(), true);
        LampPresses x = new LampPresses();
        Check.due("README: its text", Tapes.told(x, found.group(1)), 2);
        Check.due("README: its text, spelled", Tapes.spelled(x), found.group(1).replace("; ", ";"));
    }

    private static void names(String readme) {
        for (Method method : LampPresses.class.getDeclaredMethods()) {
            if (Modifier.isPublic(method.getModifiers())) {
                Check.due("README names " + method.getName(), readme.contains("`" + method.getName() + "`"), true);
            }
        }
    }
}
