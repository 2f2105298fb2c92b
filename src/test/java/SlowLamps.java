import java.util.ArrayDeque;
import java.util.ArrayList;
import java.util.Arrays;
import java.util.HashMap;
import java.util.List;
import java.util.Map;
import java.util.TreeMap;

/** The document's calls by trying out all rows of presses: slow, and written apart from the class. */
final class SlowLamps {
    private static final int NONE = -1;

    private static final class Lamp {
        int shows;
        int own = 1;
        int goal;
        /** Other lamps and weights. */
        Map<Lamp, Integer> wires = new HashMap<>();
    }

    private static final class All {
        int m = 2;
        List<Lamp> lamps = new ArrayList<>();
        int pressed;
        /** The latest last. */
        List<int[]> book = new ArrayList<>();

        All copy() {
            All to = new All();
            to.m = m;
            to.pressed = pressed;
            to.book = new ArrayList<>(book);
            Map<Lamp, Lamp> twins = new HashMap<>();
            for (Lamp lamp : lamps) {
                Lamp twin = new Lamp();
                twin.shows = lamp.shows;
                twin.own = lamp.own;
                twin.goal = lamp.goal;
                twins.put(lamp, twin);
                to.lamps.add(twin);
            }
            for (Lamp lamp : lamps) {
                lamp.wires.forEach((other, weight) -> twins.get(lamp).wires.put(twins.get(other), weight));
            }
            return to;
        }
    }

    private All all = new All();
    private ArrayDeque<All> past = new ArrayDeque<>();
    private final StringBuilder tape = new StringBuilder();

    // ---- what helps

    int m() {
        return all.m;
    }

    int n() {
        return all.lamps.size();
    }

    private boolean has(int lamp) {
        return lamp >= 0 && lamp < n();
    }

    private Lamp at(int lamp) {
        return all.lamps.get(lamp);
    }

    private boolean state(int v) {
        return v >= 0 && v < all.m;
    }

    private void act() {
        past.addLast(all.copy());
        if (past.size() > 12) {
            past.removeFirst();
        }
    }

    private int step(int pressed, int lamp) {
        return pressed == lamp ? at(lamp).own : at(pressed).wires.getOrDefault(at(lamp), 0);
    }

    private int[] shows() {
        return all.lamps.stream().mapToInt(lamp -> lamp.shows).toArray();
    }

    private int[] goals() {
        return all.lamps.stream().mapToInt(lamp -> lamp.goal).toArray();
    }

    private void pressOnce(int[] shown, int lamp) {
        for (int i = 0; i < n(); i++) {
            shown[i] = (shown[i] + step(lamp, i)) % all.m;
        }
    }

    private int[] behind(int[] row) {
        int[] shown = shows();
        for (int lamp = 0; lamp < n(); lamp++) {
            for (int t = 0; t < row[lamp]; t++) {
                pressOnce(shown, lamp);
            }
        }
        return shown;
    }

    private List<int[]> rows() {
        List<int[]> found = new ArrayList<>();
        int total = (int) Math.round(Math.pow(all.m, n()));
        for (int code = 0; code < total; code++) {
            int[] row = new int[n()];
            int rest = code;
            for (int i = n() - 1; i >= 0; i--) {
                row[i] = rest % all.m;
                rest /= all.m;
            }
            found.add(row);
        }
        return found;
    }

    private List<int[]> rowsTo(int[] wanted) {
        List<int[]> found = new ArrayList<>();
        for (int[] row : rows()) {
            if (Arrays.equals(behind(row), wanted)) {
                found.add(row);
            }
        }
        return found;
    }

    private List<int[]> planRows() {
        return rowsTo(goals());
    }

    private static int sum(int[] row) {
        return Arrays.stream(row).sum();
    }

    private int[] best(boolean byLamps) {
        int[] best = null;
        long least = Long.MAX_VALUE;
        for (int[] row : planRows()) {
            long cost = byLamps ? Arrays.stream(row).filter(v -> v > 0).count() : sum(row);
            if (cost < least) {
                least = cost;
                best = row;
            }
        }
        return best;
    }

    private Map<List<Integer>, Integer> levels() {
        Map<List<Integer>, Integer> found = new HashMap<>();
        ArrayDeque<int[]> open = new ArrayDeque<>();
        open.add(shows());
        found.put(boxed(shows()), 0);
        while (!open.isEmpty()) {
            int[] shown = open.poll();
            int depth = found.get(boxed(shown));
            for (int lamp = 0; lamp < n(); lamp++) {
                int[] next = shown.clone();
                pressOnce(next, lamp);
                if (found.putIfAbsent(boxed(next), depth + 1) == null) {
                    open.add(next);
                }
            }
        }
        return found;
    }

    private static List<Integer> boxed(int[] values) {
        List<Integer> list = new ArrayList<>();
        for (int v : values) {
            list.add(v);
        }
        return list;
    }

    private boolean tooMany() {
        return Math.pow(all.m, n()) > 60000;
    }

    private int log(int number) {
        int found = 0;
        for (int rest = number; rest > 1; rest /= all.m) {
            found++;
        }
        return found;
    }

    // ---- told

    int feed(int a, int b, int c, int d, int e) {
        if (tape.length() > 480) {
            return NONE;
        }
        for (int four : new int[] {a, b, c, d, e}) {
            tape.append((char) (four >> 24 & 255)).append((char) (four >> 16 & 255));
            tape.append((char) (four >> 8 & 255)).append((char) (four & 255));
        }
        return tape.length();
    }

    int back(int n) {
        if (n < 0 || n > tape.length()) {
            return NONE;
        }
        tape.setLength(tape.length() - n);
        return tape.length();
    }

    int text() {
        String text = tape.toString();
        tape.setLength(0);
        All fresh = new All();
        int fault = SlowReader.fault(text);
        if (fault != NONE) {
            return -4 - fault;
        }
        String spread = text.replace('\n', ' ').replace(";", " ; ").trim();
        for (String clause : spread.split(";")) {
            String[] words = clause.trim().split(" +");
            fill(fresh, words);
        }
        all = fresh;
        past.clear();
        return n();
    }

    private static void fill(All fresh, String[] words) {
        if (words[0].equals("states")) {
            fresh.m = Integer.parseInt(words[1]);
        } else if (words[0].equals("lamp")) {
            Lamp lamp = new Lamp();
            lamp.shows = Integer.parseInt(words[1]);
            for (int i = 2; i < words.length; i += 2) {
                if (words[i].equals("own")) {
                    lamp.own = Integer.parseInt(words[i + 1]);
                } else {
                    lamp.goal = Integer.parseInt(words[i + 1]);
                }
            }
            fresh.lamps.add(lamp);
        } else if (words[0].equals("wire")) {
            Lamp one = fresh.lamps.get(Integer.parseInt(words[1]));
            Lamp two = fresh.lamps.get(Integer.parseInt(words[2]));
            int weight = words.length > 3 ? Integer.parseInt(words[4]) : 1;
            one.wires.put(two, weight);
            two.wires.put(one, weight);
        }
    }

    // ---- acts

    int lamp(int shows) {
        if (!state(shows) || n() == 10) {
            return NONE;
        }
        act();
        Lamp lamp = new Lamp();
        lamp.shows = shows;
        all.lamps.add(lamp);
        return n() - 1;
    }

    boolean drop(int lamp) {
        if (!has(lamp)) {
            return false;
        }
        act();
        Lamp gone = all.lamps.remove(lamp);
        for (Lamp other : all.lamps) {
            other.wires.remove(gone);
        }
        return true;
    }

    private void join(Lamp one, Lamp two, int weight) {
        one.wires.remove(two);
        two.wires.remove(one);
        if (weight > 0) {
            one.wires.put(two, weight);
            two.wires.put(one, weight);
        }
    }

    int wire(int lamp, int other, int weight) {
        if (!has(lamp) || !has(other) || lamp == other || !state(weight) || step(lamp, other) == weight) {
            return NONE;
        }
        act();
        int was = step(lamp, other);
        join(at(lamp), at(other), weight);
        return was;
    }

    int own(int lamp, int step) {
        if (!has(lamp) || !state(step) || at(lamp).own == step) {
            return NONE;
        }
        act();
        int was = at(lamp).own;
        at(lamp).own = step;
        return was;
    }

    int goal(int lamp, int state) {
        if (!has(lamp) || !state(state) || at(lamp).goal == state) {
            return NONE;
        }
        act();
        int was = at(lamp).goal;
        at(lamp).goal = state;
        return was;
    }

    int show(int lamp, int state) {
        if (!has(lamp) || !state(state) || at(lamp).shows == state) {
            return NONE;
        }
        act();
        int was = at(lamp).shows;
        at(lamp).shows = state;
        return was;
    }

    private void pressNow(int lamp, int times) {
        int[] shown = shows();
        for (int t = 0; t < times; t++) {
            pressOnce(shown, lamp);
        }
        for (int i = 0; i < n(); i++) {
            at(i).shows = shown[i];
        }
        all.pressed += times;
        all.book.add(new int[] {lamp, times});
        if (all.book.size() > 20) {
            all.book.remove(0);
        }
    }

    int press(int lamp, int times) {
        if (!has(lamp) || times < 1 || times > 9) {
            return NONE;
        }
        act();
        pressNow(lamp, times);
        return at(lamp).shows;
    }

    int aim() {
        int missed = off();
        if (missed == 0) {
            return NONE;
        }
        act();
        for (Lamp lamp : all.lamps) {
            lamp.goal = lamp.shows;
        }
        return missed;
    }

    int solve() {
        List<int[]> plans = planRows();
        if (plans.isEmpty()) {
            return -2;
        }
        int[] row = plans.get(0);
        if (sum(row) == 0) {
            return NONE;
        }
        act();
        for (int i = 0; i < row.length; i++) {
            if (row[i] > 0) {
                pressNow(i, row[i]);
            }
        }
        return sum(row);
    }

    int lay(int kind, int a, int b) {
        boolean one = b == 1;
        boolean fine = a >= 1 && a <= 10 && b >= 1 && (long) a * b <= 10;
        if (!fine || kind < 0 || kind > 4 || kind != 2 && !one || kind == 1 && a < 3) {
            return NONE;
        }
        act();
        all.lamps.clear();
        for (int i = 0; i < a * b; i++) {
            all.lamps.add(new Lamp());
        }
        for (int i = 0; i < a * b; i++) {
            if (kind <= 1 && i + 1 < a) {
                join(at(i), at(i + 1), 1);
            }
            if (kind == 2 && i % b + 1 < b) {
                join(at(i), at(i + 1), 1);
            }
            if (kind == 2 && i / b + 1 < a) {
                join(at(i), at(i + b), 1);
            }
            if (kind == 4 && i > 0) {
                join(at(0), at(i), 1);
            }
            for (int j = 0; kind == 3 && j < i; j++) {
                join(at(i), at(j), 1);
            }
        }
        if (kind == 1) {
            join(at(0), at(a - 1), 1);
        }
        return a * b;
    }

    boolean swap(int lamp, int other) {
        if (!has(lamp) || !has(other) || lamp == other) {
            return false;
        }
        act();
        java.util.Collections.swap(all.lamps, lamp, other);
        return true;
    }

    int lift(int v) {
        if (v < 1 || v >= all.m || n() == 0) {
            return NONE;
        }
        act();
        for (Lamp lamp : all.lamps) {
            lamp.shows = (lamp.shows + v) % all.m;
        }
        return n();
    }

    int scale(int u) {
        int changed = count(2) + (int) all.lamps.stream().filter(lamp -> lamp.own > 0).count();
        if (u < 2 || u >= all.m || changed == 0) {
            return NONE;
        }
        act();
        for (Lamp lamp : all.lamps) {
            lamp.own = lamp.own * u % all.m;
            lamp.wires.replaceAll((other, weight) -> weight * u % all.m);
        }
        return changed;
    }

    int mirror() {
        if (n() < 2) {
            return NONE;
        }
        act();
        java.util.Collections.reverse(all.lamps);
        return n();
    }

    int undo() {
        if (past.isEmpty()) {
            return NONE;
        }
        all = past.removeLast();
        return past.size();
    }

    // ---- asked

    int of(int lamp, int what) {
        if (!has(lamp) || what < 0 || what > 5) {
            return NONE;
        }
        Lamp it = at(lamp);
        int bits = 0;
        int weights = 0;
        for (Map.Entry<Lamp, Integer> wire : it.wires.entrySet()) {
            bits |= 1 << all.lamps.indexOf(wire.getKey());
            weights += wire.getValue();
        }
        return new int[] {it.shows, it.own, it.goal, it.wires.size(), bits, weights}[what];
    }

    int weight(int lamp, int other) {
        return has(lamp) && has(other) ? step(lamp, other) : NONE;
    }

    int rank() {
        return log(ways());
    }

    int quiet() {
        return rowsTo(shows()).size();
    }

    int base(int k, int lamp) {
        if (!has(lamp) || k < 0) {
            return NONE;
        }
        List<int[]> quiet = rowsTo(shows());
        List<Integer> chosen = new ArrayList<>();
        for (int i = 0; i < n(); i++) {
            int at = i;
            if (quiet.stream().anyMatch(row -> first(row) == at)) {
                chosen.add(i);
            }
        }
        if (k >= chosen.size()) {
            return NONE;
        }
        for (int[] row : quiet) {
            boolean good = true;
            for (int i = 0; i < chosen.size(); i++) {
                good &= row[chosen.get(i)] == (i == k ? 1 : 0);
            }
            if (good) {
                return row[lamp];
            }
        }
        throw new IllegalStateException("no such quiet row");
    }

    private static int first(int[] row) {
        for (int i = 0; i < row.length; i++) {
            if (row[i] > 0) {
                return i;
            }
        }
        return NONE;
    }

    int plans() {
        return planRows().size();
    }

    int plan(int lamp) {
        if (!has(lamp)) {
            return NONE;
        }
        List<int[]> plans = planRows();
        return plans.isEmpty() ? -2 : plans.get(0)[lamp];
    }

    private int told(boolean byLamps, int lamp) {
        if (lamp != NONE && !has(lamp)) {
            return NONE;
        }
        int number = planRows().size();
        if (number == 0 || number > 60000) {
            return number == 0 ? -2 : -3;
        }
        int[] row = best(byLamps);
        if (lamp != NONE) {
            return row[lamp];
        }
        return byLamps ? (int) Arrays.stream(row).filter(v -> v > 0).count() : sum(row);
    }

    int fewest(int lamp) {
        return told(false, lamp);
    }

    int fixed(int lamp) {
        if (!has(lamp)) {
            return NONE;
        }
        List<int[]> plans = planRows();
        if (plans.isEmpty()) {
            return -2;
        }
        int times = plans.get(0)[lamp];
        return plans.stream().allMatch(row -> row[lamp] == times) ? times : -3;
    }

    int alone(int lamp) {
        if (!has(lamp)) {
            return NONE;
        }
        int[] wanted = shows();
        wanted[lamp] = (wanted[lamp] + 1) % all.m;
        List<int[]> rows = rowsTo(wanted);
        return rows.isEmpty() ? -2 : sum(rows.get(0));
    }

    int alones() {
        int bits = 0;
        for (int i = 0; i < n(); i++) {
            bits |= alone(i) == -2 ? 0 : 1 << i;
        }
        return bits;
    }

    int off() {
        return (int) all.lamps.stream().filter(lamp -> lamp.shows != lamp.goal).count();
    }

    int parts() {
        int found = 0;
        for (int i = 0; i < n(); i++) {
            boolean fresh = true;
            for (int j = 0; j < i; j++) {
                fresh &= distance(i, j) == -2;
            }
            found += fresh ? 1 : 0;
        }
        return found;
    }

    int distance(int lamp, int other) {
        if (!has(lamp) || !has(other)) {
            return NONE;
        }
        Map<Lamp, Integer> far = new HashMap<>();
        ArrayDeque<Lamp> open = new ArrayDeque<>();
        far.put(at(lamp), 0);
        open.add(at(lamp));
        while (!open.isEmpty()) {
            Lamp here = open.poll();
            for (Lamp next : here.wires.keySet()) {
                if (far.putIfAbsent(next, far.get(here) + 1) == null) {
                    open.add(next);
                }
            }
        }
        return far.getOrDefault(at(other), -2);
    }

    int same(int lamp, int other) {
        if (!has(lamp) || !has(other)) {
            return NONE;
        }
        int[] one = new int[n()];
        int[] two = new int[n()];
        pressOnce(one, lamp);
        pressOnce(two, other);
        return Arrays.equals(one, two) ? 1 : 0;
    }

    int part(int set) {
        if (set < 0 || set >= 1 << n()) {
            return NONE;
        }
        int found = 0;
        for (int[] row : rows()) {
            int[] shown = behind(row);
            boolean good = true;
            for (int i = 0; i < n(); i++) {
                good &= (set >> i & 1) == 0 || shown[i] == at(i).goal;
            }
            found += good ? 1 : 0;
        }
        return found;
    }

    int only(int set) {
        if (set < 0 || set >= 1 << n()) {
            return NONE;
        }
        int found = 0;
        for (int[] row : planRows()) {
            boolean good = true;
            for (int i = 0; i < n(); i++) {
                good &= row[i] == 0 || (set >> i & 1) == 1;
            }
            found += good ? 1 : 0;
        }
        return found;
    }

    int sparest(int lamp) {
        return told(true, lamp);
    }

    int greedy(int what) {
        if (what < 0 || what > 1) {
            return NONE;
        }
        int[] shown = shows();
        int presses = 0;
        while (true) {
            TreeMap<Integer, Integer> choice = new TreeMap<>();
            for (int lamp = 0; lamp < n(); lamp++) {
                int[] next = shown.clone();
                pressOnce(next, lamp);
                choice.putIfAbsent(missed(next), lamp);
            }
            if (choice.isEmpty() || choice.firstKey() >= missed(shown)) {
                return what == 0 ? presses : missed(shown);
            }
            pressOnce(shown, choice.firstEntry().getValue());
            presses++;
        }
    }

    private int missed(int[] shown) {
        int found = 0;
        for (int i = 0; i < n(); i++) {
            found += shown[i] == at(i).goal ? 0 : 1;
        }
        return found;
    }

    int hardest() {
        int found = -2;
        for (int i = 0; i < n(); i++) {
            if (alone(i) != -2 && (found == -2 || alone(i) > alone(found))) {
                found = i;
            }
        }
        return found;
    }

    int after(int pressed, int lamp) {
        if (!has(pressed) || !has(lamp)) {
            return NONE;
        }
        int[] shown = shows();
        pressOnce(shown, pressed);
        return shown[lamp];
    }

    int cycle(int lamp) {
        if (!has(lamp)) {
            return NONE;
        }
        int[] shown = shows();
        int presses = 0;
        do {
            pressOnce(shown, lamp);
            presses++;
        } while (!Arrays.equals(shown, shows()));
        return presses;
    }

    int ways() {
        return levels().size();
    }

    int hub() {
        int found = -2;
        for (int i = n() - 1; i >= 0; i--) {
            if (found == -2 || at(i).wires.size() >= at(found).wires.size()) {
                found = i;
            }
        }
        return found;
    }

    int book(int k, int what) {
        if (k < 0 || k >= all.book.size() || what < 0 || what > 1) {
            return NONE;
        }
        return all.book.get(all.book.size() - 1 - k)[what];
    }

    // ---- levels

    int deepest() {
        return tooMany() ? -3 : levels().values().stream().mapToInt(v -> v).max().getAsInt();
    }

    int level(int l) {
        if (l < 0) {
            return NONE;
        }
        return tooMany() ? -3 : (int) levels().values().stream().filter(v -> v == l).count();
    }

    int levelOf(int way) {
        if (way < 0 || way >= Math.pow(all.m, n())) {
            return NONE;
        }
        return tooMany() ? -3 : levels().getOrDefault(boxed(rows().get(way)), -2);
    }

    int far(int lamp) {
        if (!has(lamp)) {
            return NONE;
        }
        if (tooMany()) {
            return -3;
        }
        Map<List<Integer>, Integer> levels = levels();
        int most = levels.values().stream().mapToInt(v -> v).max().getAsInt();
        for (int[] way : rows()) {
            if (levels.getOrDefault(boxed(way), -2) == most) {
                return way[lamp];
            }
        }
        throw new IllegalStateException("no such way");
    }

    // ---- were

    private int plansOf(All other) {
        All now = all;
        all = other;
        int found = plans();
        all = now;
        return found;
    }

    int byOwn(int lamp, int step) {
        if (!has(lamp) || !state(step)) {
            return NONE;
        }
        All other = all.copy();
        other.lamps.get(lamp).own = step;
        return plansOf(other);
    }

    int byWire(int lamp, int other, int weight) {
        if (!has(lamp) || !has(other) || lamp == other || !state(weight)) {
            return NONE;
        }
        All changed = all.copy();
        join(changed.lamps.get(lamp), changed.lamps.get(other), weight);
        return plansOf(changed);
    }

    int without(int lamp) {
        if (!has(lamp)) {
            return NONE;
        }
        All now = all;
        all = all.copy();
        Lamp gone = all.lamps.remove(lamp);
        for (Lamp other : all.lamps) {
            other.wires.remove(gone);
        }
        int found = rank();
        all = now;
        return found;
    }

    int mend() {
        if (plans() > 0) {
            return -2;
        }
        for (int lamp = 0; lamp < n(); lamp++) {
            for (int state = 0; state < all.m; state++) {
                All other = all.copy();
                other.lamps.get(lamp).shows = state;
                if (plansOf(other) > 0) {
                    return 10 * lamp + state;
                }
            }
        }
        return -2;
    }

    int even() {
        int bits = 0;
        for (int state = 0; state < all.m; state++) {
            int[] wanted = new int[n()];
            Arrays.fill(wanted, state);
            bits |= rowsTo(wanted).isEmpty() ? 0 : 1 << state;
        }
        return bits;
    }

    // ---- texts

    private static int sign(String text, int i) {
        if (i < NONE) {
            return NONE;
        }
        if (i == NONE) {
            return text.length();
        }
        return i < text.length() ? text.charAt(i) : -2;
    }

    int spell(int i) {
        String text = "states " + all.m + ";";
        for (Lamp lamp : all.lamps) {
            text += "lamp " + lamp.shows + (lamp.own == 1 ? "" : " own " + lamp.own);
            text += (lamp.goal == 0 ? "" : " goal " + lamp.goal) + ";";
        }
        for (int a = 0; a < n(); a++) {
            for (int b = a + 1; b < n(); b++) {
                int w = step(a, b);
                text += w == 0 ? "" : "wire " + a + " " + b + (w == 1 ? "" : " by " + w) + ";";
            }
        }
        return sign(text, i);
    }

    int report(int i) {
        int total = fewest(NONE);
        if (total < 0) {
            return sign(total == -2 ? "none;" : "many;", i);
        }
        String text = "";
        int[] row = best(false);
        for (int lamp = 0; lamp < n(); lamp++) {
            text += row[lamp] == 0 ? "" : "press " + lamp + " " + row[lamp] + ";";
        }
        return sign(text + "done " + total + ";", i);
    }

    int count(int what) {
        switch (what) {
            case 0: return all.m;
            case 1: return n();
            case 2: return all.lamps.stream().mapToInt(lamp -> lamp.wires.size()).sum() / 2;
            case 3: return past.size();
            case 4: return tape.length();
            case 5: return all.pressed;
            case 6: return (int) all.lamps.stream().filter(lamp -> lamp.shows > 0).count();
            case 7: return all.book.size();
            default: return NONE;
        }
    }
}
