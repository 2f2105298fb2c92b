import java.lang.reflect.Array;
import java.lang.reflect.Constructor;
import java.lang.reflect.Field;
import java.lang.reflect.Method;
import java.lang.reflect.Modifier;
import java.nio.file.Files;
import java.nio.file.Path;
import java.util.Arrays;
import java.util.IdentityHashMap;
import java.util.Map;
import java.util.Set;
import java.util.TreeMap;
import java.util.TreeSet;
import java.util.regex.Matcher;
import java.util.regex.Pattern;

/** The document's face, the rules of LANGUAGE.md that can be looked up, and the room an object takes. */
final class LanguageTest {
    private static final String FACE = "feed 5 back 1 text 0 lamp 1 drop 1 wire 3 own 2 goal 2 show 2 press 2 aim 0 "
        + "solve 0 lay 3 swap 2 lift 1 scale 1 mirror 0 undo 0 of 2 weight 2 rank 0 quiet 0 base 2 plans 0 plan 1 "
        + "fewest 1 fixed 1 alone 1 alones 0 off 0 parts 0 distance 2 same 2 part 1 only 1 sparest 1 greedy 1 "
        + "hardest 0 after 2 cycle 1 ways 0 hub 0 book 2 deepest 0 level 1 levelOf 1 far 1 byOwn 2 byWire 3 "
        + "without 1 mend 0 even 0 spell 1 report 1 count 1";

    private LanguageTest() {
    }

    public static void main(String[] args) throws Exception {
        face();
        for (Class<?> inside : LampPresses.class.getDeclaredClasses()) {
            members(inside);
            constructors(inside);
        }
        members(LampPresses.class);
        constructors(LampPresses.class);
        Check.due("classes", LampPresses.class.getDeclaredClasses().length + 1 <= 12, true);
        source(Files.readString(Path.of("src/main/java/LampPresses.java")));
        room();
        Check.end();
    }

    private static void face() {
        Set<String> due = new TreeSet<>();
        String[] words = FACE.split(" ");
        for (int i = 0; i < words.length; i += 2) {
            boolean answersBoolean = words[i].equals("drop") || words[i].equals("swap");
            due.add((answersBoolean ? "boolean " : "int ") + words[i] + " " + words[i + 1]);
        }
        Check.due("methods", due.size(), 55);
        Set<String> got = new TreeSet<>();
        for (Method method : LampPresses.class.getDeclaredMethods()) {
            if (!Modifier.isPrivate(method.getModifiers())) {
                got.add(method.getReturnType() + " " + method.getName() + " " + method.getParameterCount());
                Check.due(method.getName() + " is public alone", method.getModifiers(), Modifier.PUBLIC);
            }
        }
        Check.due("the face", got.toString(), due.toString());
        Check.due("public and final", LampPresses.class.getModifiers(), Modifier.PUBLIC | Modifier.FINAL);
        Constructor<?>[] made = LampPresses.class.getDeclaredConstructors();
        Check.due("one constructor", made.length, 1);
        Check.due("of no numbers", made[0].getParameterCount(), 0);
        for (Field field : LampPresses.class.getDeclaredFields()) {
            boolean open = field.getName().equals("NONE");
            Check.due(field.getName(), Modifier.isPrivate(field.getModifiers()), !open);
        }
    }

    private static void members(Class<?> type) {
        int fields = 0;
        for (Field field : type.getDeclaredFields()) {
            boolean shared = Modifier.isStatic(field.getModifiers());
            Check.due(field + " is final", !shared || Modifier.isFinal(field.getModifiers()), true);
            fields += shared ? 0 : 1;
        }
        Check.due(type + " has some twenty fields at most", fields <= 20, true);
        Check.due(type + " is static", type == LampPresses.class || Modifier.isStatic(type.getModifiers()), true);
        Set<String> names = new TreeSet<>(Arrays.asList(FACE.split(" ")));
        for (Method method : type.getDeclaredMethods()) {
            Check.due(method + " has seven parameters at most", method.getParameterCount() <= 7, true);
            boolean open = type == LampPresses.class && Modifier.isPublic(method.getModifiers());
            Check.due(method + " bears a name of its own", open || !names.contains(method.getName()), true);
        }
    }

    private static void source(String source) {
        String code = source.replaceAll("(?s)/\\*.*?\\*/", "").replaceAll("//[^\\n]*", "");
        String bare = code.replaceAll("\"[^\"\\n]*\"", "\"\"").replaceAll("'[^'\\n]+'", "' '");
        String[] words = {"throw", "throws", "try", "catch", "finally", "synchronized", "assert", "volatile", "native",
            "Exception", "Error", "Object", "Thread", "Random", "HashMap", "Map", "Set", "Scanner", "File", "var",
            "yield", "goto", "package", "protected", "addExact", "multiplyExact", "toIntExact", "currentTimeMillis",
            "nanoTime", "hashCode", "toString", "equals", "out", "err", "exit"};
        for (String word : words) {
            Check.due("no " + word, Pattern.compile("\\b" + word + "\\b").matcher(bare).find(), false);
        }
        Check.due("no lambda", bare.contains("->"), false);
        Check.due("no method reference", bare.contains("::"), false);
        Check.due("no texts joined by +", bare.contains("\"\" +") || bare.contains("+ \"\""), false);
        Check.due("ASCII alone", source.chars().allMatch(sign -> sign < 128), true);
        Matcher imports = Pattern.compile("(?m)^import (.*);").matcher(bare);
        while (imports.find()) {
            Check.due("import", imports.group(1), "java.util.Arrays");
        }
        methodLengths(bare);
        newObjects(bare);
        callDepth(bare);
    }

    /**
     * Rule 11. Calls are looked up by name alone, so a way through two methods of one name may be told longer
     * than it is, never shorter.
     */
    private static void callDepth(String bare) {
        Map<String, Set<String>> calls = calls(bare);
        Check.due("methods were found", calls.size() > FACE.split(" ").length / 2, true);
        for (String name : calls.keySet()) {
            int depth = depth(calls, name, new TreeSet<>());
            Check.due(name + " goes " + depth + " calls deep", depth <= 8, true);
        }
    }

    private static Map<String, Set<String>> calls(String bare) {
        Pattern head = Pattern.compile("( {4}| {8})(?:(?:public|private|static) )*[\\w\\[\\]]+ (\\w+)\\(.*\\) \\{");
        Map<String, String> bodies = new TreeMap<>();
        String name = "";
        String end = "";
        for (String line : bare.split("\n")) {
            Matcher found = head.matcher(line);
            if (name.isEmpty() && found.matches()) {
                name = found.group(2);
                end = found.group(1) + "}";
                bodies.putIfAbsent(name, "");
            } else if (line.equals(end)) {
                name = "";
            } else if (!name.isEmpty()) {
                bodies.merge(name, line, (ahead, more) -> ahead + "\n" + more);
            }
        }
        Map<String, Set<String>> calls = new TreeMap<>();
        for (Map.Entry<String, String> body : bodies.entrySet()) {
            Set<String> called = new TreeSet<>();
            Pattern.compile("\\b(\\w+)\\(").matcher(body.getValue()).results().forEach(r -> called.add(r.group(1)));
            called.retainAll(bodies.keySet());
            calls.put(body.getKey(), called);
        }
        return calls;
    }

    /** A method that calls itself is counted once: no other recursion is in the class. */
    private static int depth(Map<String, Set<String>> calls, String name, Set<String> open) {
        Set<String> standing = new TreeSet<>(open);
        standing.add(name);
        int deepest = 0;
        for (String called : calls.get(name)) {
            if (!called.equals(name)) {
                Check.due(called + " is not called in a ring", standing.contains(called), false);
                deepest = Math.max(deepest, standing.contains(called) ? 0 : depth(calls, called, standing));
            }
        }
        return deepest + 1;
    }

    /** Rule 12: nothing of an object is handed out while it is being made. */
    private static void constructors(Class<?> type) {
        for (Constructor<?> made : type.getDeclaredConstructors()) {
            for (Class<?> taken : made.getParameterTypes()) {
                Check.due(type + " is made of numbers alone", taken.isPrimitive(), true);
            }
        }
    }

    private static void methodLengths(String bare) {
        int start = 0;
        int number = 0;
        boolean inside = false;
        for (String line : bare.split("\n")) {
            number++;
            if (!inside && line.matches("(    |        )[a-z].*\\) \\{")) {
                inside = true;
                start = number;
            } else if (inside && line.matches("(    |        )\\}")
                && line.indexOf('}') == firstSign(bare.split("\n")[start - 1])) {
                inside = false;
                Check.due("lines of the method at " + start, number - start <= 60, true);
            }
        }
    }

    private static int firstSign(String line) {
        return line.length() - line.stripLeading().length();
    }

    /** Calls make nothing: all is made with the object, or it would add up from call to call. */
    private static void newObjects(String bare) {
        for (String line : bare.split("\n")) {
            if (line.matches(".*\\bnew\\b.*")) {
                boolean field = line.matches(" +(private )?final [A-Za-z]+(\\[\\])* [a-zA-Z]+ = new .*");
                boolean constructor = line.contains("kept[i] = new Net()") || line.contains("bytes = new byte[");
                Check.due("made with the object: " + line.trim(), field || constructor, true);
            }
        }
    }

    /** Five hundred objects and what they hold must stay well within the room of one run. */
    private static void room() throws Exception {
        LampPresses x = new LampPresses();
        Map<Object, Boolean> seen = new IdentityHashMap<>();
        long elements = elements(x, seen);
        Check.due("elements: " + elements, elements < 7_300_000 / 512, true);
        Check.due("objects: " + seen.size(), seen.size() < 600_000 / 512, true);
    }

    private static long elements(Object thing, Map<Object, Boolean> seen) throws Exception {
        if (thing == null || seen.put(thing, true) != null) {
            return 0;
        }
        long total = 0;
        if (thing.getClass().isArray()) {
            int length = Array.getLength(thing);
            for (int i = 0; i < length && !thing.getClass().getComponentType().isPrimitive(); i++) {
                total += elements(Array.get(thing, i), seen);
            }
            return total + length;
        }
        for (Field field : thing.getClass().getDeclaredFields()) {
            if (!Modifier.isStatic(field.getModifiers())) {
                field.setAccessible(true);
                total += 1 + (field.getType().isPrimitive() ? 0 : elements(field.get(thing), seen));
            }
        }
        return total;
    }
}
