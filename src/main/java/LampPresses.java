import java.util.Arrays;

/** Lamps that are switched by their neighbours; ../shared/DOC.md tells the promises by number. */
public final class LampPresses {
    public static final int NONE = -1;

    private static final int CANNOT = -2;
    private static final int UNTOLD = -3;
    private static final int FAULT = -4;

    private static final int MOST_LAMPS = 10;
    private static final int MOST_STATES = 5;
    private static final int MOST_TOLD = 60000;
    private static final int MOST_TIMES = 9;
    private static final int MOST_ACTS = 12;
    private static final int MOST_ENTRIES = 20;
    private static final int TAPE_BYTES = 500;
    private static final int FED_BYTES = 20;
    private static final int LEVELS = MOST_LAMPS * (MOST_STATES - 1) + 1;
    private static final int SPELLED_BYTES = 900;
    private static final int REPORTED_BYTES = 120;

    private static final int KIND_ROW = 0;
    private static final int KIND_RING = 1;
    private static final int KIND_GRID = 2;
    private static final int KIND_ALL = 3;
    private static final int KIND_STAR = 4;

    private final Net net = new Net();
    private final Past past = new Past();
    private final Reader reader = new Reader();
    private final Tape tape = reader.tape;
    private final Solver solver = new Solver();
    private final Solver trial = new Solver();
    private final Search fewestRow = new Search(false);
    private final Search sparestRow = new Search(true);
    private final Search levelRow = new Search(false);
    private final Levels levels = new Levels();
    private final Line spelled = new Line(SPELLED_BYTES);
    private final Line reported = new Line(REPORTED_BYTES);
    private final int[] change = new int[MOST_LAMPS];
    private final int[] row = new int[MOST_LAMPS];
    private final int[] firstPlan = new int[MOST_LAMPS];
    private boolean hasPlan;
    private boolean planKnown;

    public LampPresses() {
    }

    // ---- told

    public int feed(int a, int b, int c, int d, int e) {
        if (tape.length + FED_BYTES > TAPE_BYTES) {
            return NONE;
        }
        tape.put(a);
        tape.put(b);
        tape.put(c);
        tape.put(d);
        tape.put(e);
        return tape.length;
    }

    public int back(int n) {
        if (n < 0 || n > tape.length) {
            return NONE;
        }
        tape.length -= n;
        return tape.length;
    }

    public int text() {
        int fault = reader.read();
        tape.length = 0;
        if (fault != NONE) {
            return FAULT - fault;
        }
        net.copyFrom(reader.draft);
        past.size = 0;
        stepsChange();
        return net.lamps;
    }

    // ---- acts

    public int lamp(int shows) {
        if (!net.isState(shows) || net.lamps >= MOST_LAMPS) {
            return NONE;
        }
        keepForSteps();
        net.add(shows, 1, 0);
        return net.lamps - 1;
    }

    public boolean drop(int lamp) {
        if (!net.has(lamp)) {
            return false;
        }
        keepForSteps();
        net.remove(lamp);
        return true;
    }

    public int wire(int lamp, int other, int weight) {
        if (!isPair(lamp, other) || !net.isState(weight) || net.steps[lamp][other] == weight) {
            return NONE;
        }
        int was = net.steps[lamp][other];
        keepForSteps();
        net.join(lamp, other, weight);
        return was;
    }

    public int own(int lamp, int step) {
        if (!net.has(lamp) || !net.isState(step) || net.steps[lamp][lamp] == step) {
            return NONE;
        }
        int was = net.steps[lamp][lamp];
        keepForSteps();
        net.steps[lamp][lamp] = step;
        return was;
    }

    public int goal(int lamp, int state) {
        if (!net.has(lamp) || !net.isState(state) || net.goals[lamp] == state) {
            return NONE;
        }
        int was = net.goals[lamp];
        keepForStates();
        net.goals[lamp] = state;
        return was;
    }

    public int show(int lamp, int state) {
        if (!net.has(lamp) || !net.isState(state) || net.shows[lamp] == state) {
            return NONE;
        }
        int was = net.shows[lamp];
        keepForStates();
        net.shows[lamp] = state;
        return was;
    }

    public int press(int lamp, int times) {
        if (!net.has(lamp) || times < 1 || times > MOST_TIMES) {
            return NONE;
        }
        keepForStates();
        net.pressLamp(lamp, times);
        return net.shows[lamp];
    }

    public int aim() {
        int missed = net.missed();
        if (missed == 0) {
            return NONE;
        }
        keepForStates();
        System.arraycopy(net.shows, 0, net.goals, 0, MOST_LAMPS);
        return missed;
    }

    public int solve() {
        findPlan();
        if (!hasPlan) {
            return CANNOT;
        }
        int presses = sum(firstPlan, net.lamps);
        if (presses == 0) {
            return NONE;
        }
        keepForStates();
        for (int i = 0; i < net.lamps; i++) {
            if (firstPlan[i] > 0) {
                net.pressLamp(i, firstPlan[i]);
            }
        }
        return presses;
    }

    public int lay(int kind, int a, int b) {
        if (!isLayout(kind, a, b)) {
            return NONE;
        }
        keepForSteps();
        net.lamps = 0;
        int all = a * b;
        for (int i = 0; i < all; i++) {
            net.add(0, 1, 0);
        }
        for (int i = 0; i < all; i++) {
            for (int j = i + 1; j < all; j++) {
                if (areJoined(kind, all, b, i, j)) {
                    net.join(i, j, 1);
                }
            }
        }
        return all;
    }

    public boolean swap(int lamp, int other) {
        if (!isPair(lamp, other)) {
            return false;
        }
        keepForSteps();
        net.exchange(lamp, other);
        return true;
    }

    public int lift(int v) {
        if (v < 1 || !net.isState(v) || net.lamps == 0) {
            return NONE;
        }
        keepForStates();
        for (int i = 0; i < net.lamps; i++) {
            net.shows[i] = mod(net.shows[i] + v, net.states);
        }
        return net.lamps;
    }

    public int scale(int u) {
        int changed = net.stepsAndWires();
        if (u < 2 || !net.isState(u) || changed == 0) {
            return NONE;
        }
        keepForSteps();
        for (int i = 0; i < net.lamps; i++) {
            for (int j = 0; j < net.lamps; j++) {
                net.steps[i][j] = mod(u * net.steps[i][j], net.states);
            }
        }
        return changed;
    }

    public int mirror() {
        if (net.lamps < 2) {
            return NONE;
        }
        keepForSteps();
        int last = net.lamps - 1;
        for (int i = 0; i < last - i; i++) {
            net.exchange(i, last - i);
        }
        return net.lamps;
    }

    public int undo() {
        if (past.size == 0) {
            return NONE;
        }
        past.bringBack(net);
        stepsChange();
        return past.size;
    }

    // ---- asked

    public int of(int lamp, int what) {
        if (!net.has(lamp)) {
            return NONE;
        }
        switch (what) {
            case 0: return net.shows[lamp];
            case 1: return net.steps[lamp][lamp];
            case 2: return net.goals[lamp];
            case 3: return Integer.bitCount(net.neighbours(lamp));
            case 4: return net.neighbours(lamp);
            case 5: return sum(net.steps[lamp], net.lamps) - net.steps[lamp][lamp];
            default: return NONE;
        }
    }

    public int weight(int lamp, int other) {
        return net.has(lamp) && net.has(other) ? net.steps[lamp][other] : NONE;
    }

    public int rank() {
        settle();
        return solver.rank;
    }

    public int quiet() {
        settle();
        return quietRows();
    }

    public int base(int k, int lamp) {
        settle();
        return k >= 0 && k < solver.free && net.has(lamp) ? solver.bases[k][lamp] : NONE;
    }

    public int plans() {
        findPlan();
        return hasPlan ? quietRows() : 0;
    }

    public int plan(int lamp) {
        if (!net.has(lamp)) {
            return NONE;
        }
        findPlan();
        return hasPlan ? firstPlan[lamp] : CANNOT;
    }

    public int fewest(int lamp) {
        return bestPlan(fewestRow, lamp);
    }

    public int fixed(int lamp) {
        if (!net.has(lamp)) {
            return NONE;
        }
        findPlan();
        if (!hasPlan) {
            return CANNOT;
        }
        return solver.isMoved(lamp) ? UNTOLD : firstPlan[lamp];
    }

    public int alone(int lamp) {
        if (!net.has(lamp)) {
            return NONE;
        }
        settle();
        return pressesForOne(lamp);
    }

    public int alones() {
        settle();
        int bits = 0;
        for (int i = 0; i < net.lamps; i++) {
            if (pressesForOne(i) != CANNOT) {
                bits |= 1 << i;
            }
        }
        return bits;
    }

    public int off() {
        return net.missed();
    }

    public int parts() {
        int seen = 0;
        int found = 0;
        for (int i = 0; i < net.lamps; i++) {
            if ((seen >> i & 1) == 0) {
                found++;
                seen |= reachedFrom(i);
            }
        }
        return found;
    }

    public int distance(int lamp, int other) {
        if (!net.has(lamp) || !net.has(other)) {
            return NONE;
        }
        int reached = 1 << lamp;
        for (int wires = 0; wires < net.lamps; wires++) {
            if ((reached >> other & 1) == 1) {
                return wires;
            }
            reached = net.spread(reached);
        }
        return CANNOT;
    }

    public int same(int lamp, int other) {
        if (!net.has(lamp) || !net.has(other)) {
            return NONE;
        }
        for (int i = 0; i < net.lamps; i++) {
            if (net.steps[lamp][i] != net.steps[other][i]) {
                return 0;
            }
        }
        return 1;
    }

    public int part(int set) {
        if (!isSet(set)) {
            return NONE;
        }
        trial.load(net);
        setChangeToGoals();
        for (int i = 0; i < net.lamps; i++) {
            if ((set >> i & 1) == 0) {
                trial.clearRow(i);
                change[i] = 0;
            }
        }
        trial.reduce();
        return trial.fits(change) ? power(net.states, trial.free) : 0;
    }

    public int only(int set) {
        if (!isSet(set)) {
            return NONE;
        }
        trial.load(net);
        setChangeToGoals();
        for (int i = 0; i < net.lamps; i++) {
            if ((set >> i & 1) == 0) {
                trial.clearColumn(i);
            }
        }
        trial.reduce();
        return trial.fits(change) ? power(net.states, Integer.bitCount(set) - trial.rank) : 0;
    }

    public int sparest(int lamp) {
        return bestPlan(sparestRow, lamp);
    }

    public int greedy(int what) {
        if (what != 0 && what != 1) {
            return NONE;
        }
        System.arraycopy(net.shows, 0, row, 0, MOST_LAMPS);
        int missed = net.missed();
        int presses = 0;
        for (int turn = 0; turn < MOST_LAMPS; turn++) {
            int lamp = greediest(missed);
            if (lamp == NONE) {
                break;
            }
            missed = net.missedBehind(row, lamp);
            net.stepOnce(row, lamp);
            presses++;
        }
        return what == 0 ? presses : missed;
    }

    public int hardest() {
        settle();
        int most = CANNOT;
        int found = CANNOT;
        for (int i = 0; i < net.lamps; i++) {
            int presses = pressesForOne(i);
            if (presses > most) {
                most = presses;
                found = i;
            }
        }
        return found;
    }

    public int after(int pressed, int lamp) {
        if (!net.has(pressed) || !net.has(lamp)) {
            return NONE;
        }
        return mod(net.shows[lamp] + net.steps[pressed][lamp], net.states);
    }

    public int cycle(int lamp) {
        if (!net.has(lamp)) {
            return NONE;
        }
        // M is prime: a step that is not 0 comes back behind M presses and no fewer.
        return sum(net.steps[lamp], net.lamps) == 0 ? 1 : net.states;
    }

    public int ways() {
        settle();
        return power(net.states, solver.rank);
    }

    public int hub() {
        int most = NONE;
        int found = CANNOT;
        for (int i = 0; i < net.lamps; i++) {
            int wires = Integer.bitCount(net.neighbours(i));
            if (wires > most) {
                most = wires;
                found = i;
            }
        }
        return found;
    }

    public int book(int k, int what) {
        return net.entries.entry(k, what);
    }

    // ---- levels

    public int deepest() {
        if (!areLevelsTold()) {
            return UNTOLD;
        }
        measureLevels();
        return levels.deepest;
    }

    public int level(int l) {
        if (l < 0) {
            return NONE;
        }
        if (!areLevelsTold()) {
            return UNTOLD;
        }
        measureLevels();
        return l < LEVELS ? levels.counts[l] : 0;
    }

    public int levelOf(int way) {
        if (way < 0 || way >= allWays()) {
            return NONE;
        }
        if (!areLevelsTold()) {
            return UNTOLD;
        }
        settle();
        int rest = way;
        for (int i = net.lamps - 1; i >= 0; i--) {
            change[i] = mod(mod(rest, net.states) + net.states - net.shows[i], net.states);
            rest = net.states > 0 ? rest / net.states : 0;
        }
        if (!solver.fits(change)) {
            return CANNOT;
        }
        solver.firstRow(row);
        levelRow.seek(solver, row);
        return levelRow.best;
    }

    public int far(int lamp) {
        if (!net.has(lamp)) {
            return NONE;
        }
        if (!areLevelsTold()) {
            return UNTOLD;
        }
        if (!levels.farKnown) {
            levels.known = false;
        }
        measureLevels();
        return levels.far[lamp];
    }

    // ---- were

    public int byOwn(int lamp, int step) {
        if (!net.has(lamp) || !net.isState(step)) {
            return NONE;
        }
        return plansWith(lamp, lamp, step);
    }

    public int byWire(int lamp, int other, int weight) {
        if (!isPair(lamp, other) || !net.isState(weight)) {
            return NONE;
        }
        return plansWith(lamp, other, weight);
    }

    public int without(int lamp) {
        if (!net.has(lamp)) {
            return NONE;
        }
        trial.load(net);
        trial.clearRow(lamp);
        trial.clearColumn(lamp);
        trial.reduce();
        return trial.rank;
    }

    public int mend() {
        findPlan();
        if (hasPlan) {
            return CANNOT;
        }
        setChangeToGoals();
        for (int i = 0; i < net.lamps; i++) {
            int was = change[i];
            for (int state = 0; state < net.states; state++) {
                change[i] = mod(net.goals[i] + net.states - state, net.states);
                if (solver.fits(change)) {
                    return 10 * i + state;
                }
            }
            change[i] = was;
        }
        return CANNOT;
    }

    public int even() {
        settle();
        int bits = 0;
        for (int state = 0; state < net.states; state++) {
            for (int i = 0; i < net.lamps; i++) {
                change[i] = mod(state + net.states - net.shows[i], net.states);
            }
            if (solver.fits(change)) {
                bits |= 1 << state;
            }
        }
        return bits;
    }

    // ---- texts

    public int spell(int i) {
        if (!spelled.known) {
            writeNet();
        }
        return spelled.answer(i);
    }

    public int report(int i) {
        findPlan();
        findBest(fewestRow);
        if (!reported.known) {
            writeFewest();
        }
        return reported.answer(i);
    }

    public int count(int what) {
        switch (what) {
            case 0: return net.states;
            case 1: return net.lamps;
            case 2: return net.wires();
            case 3: return past.size;
            case 4: return tape.length;
            case 5: return net.pressed;
            case 6: return net.lit();
            case 7: return net.entries.size;
            default: return NONE;
        }
    }

    // ---- what is known from call to call

    private void keepForStates() {
        past.keep(net);
        statesChange();
    }

    private void keepForSteps() {
        past.keep(net);
        stepsChange();
    }

    private void statesChange() {
        planKnown = false;
        fewestRow.known = false;
        sparestRow.known = false;
        levels.farKnown = false;
        spelled.known = false;
        reported.known = false;
    }

    private void stepsChange() {
        statesChange();
        solver.known = false;
        levels.known = false;
    }

    private void settle() {
        if (!solver.known) {
            solver.load(net);
            solver.reduce();
            solver.findBases();
            solver.known = true;
        }
    }

    private void findPlan() {
        if (planKnown) {
            return;
        }
        settle();
        setChangeToGoals();
        hasPlan = solver.fits(change);
        if (hasPlan) {
            solver.firstRow(firstPlan);
        }
        planKnown = true;
    }

    /** Wants findPlan() ahead of it. */
    private void findBest(Search search) {
        if (hasPlan && arePlansTold() && !search.known) {
            search.seek(solver, firstPlan);
            search.known = true;
        }
    }

    private void measureLevels() {
        if (!levels.known) {
            settle();
            levels.measure(net, solver);
            levels.known = true;
            levels.farKnown = true;
        }
    }

    // ---- what several calls share

    private boolean isPair(int lamp, int other) {
        return net.has(lamp) && net.has(other) && lamp != other;
    }

    private boolean isSet(int set) {
        return set >= 0 && set >> net.lamps == 0;
    }

    private int allWays() {
        return power(net.states, net.lamps);
    }

    private boolean areLevelsTold() {
        return allWays() <= MOST_TOLD;
    }

    private boolean arePlansTold() {
        return quietRows() <= MOST_TOLD;
    }

    private int quietRows() {
        return power(net.states, solver.free);
    }

    private void setChangeToGoals() {
        for (int i = 0; i < net.lamps; i++) {
            change[i] = mod(net.goals[i] + net.states - net.shows[i], net.states);
        }
    }

    private int bestPlan(Search search, int lamp) {
        if (lamp != NONE && !net.has(lamp)) {
            return NONE;
        }
        findPlan();
        if (!hasPlan) {
            return CANNOT;
        }
        if (!arePlansTold()) {
            return UNTOLD;
        }
        findBest(search);
        return lamp == NONE ? search.best : search.found[lamp];
    }

    /** Wants settle() ahead of it. */
    private int pressesForOne(int lamp) {
        Arrays.fill(change, 0);
        change[lamp] = 1;
        if (!solver.fits(change)) {
            return CANNOT;
        }
        solver.firstRow(row);
        return sum(row, net.lamps);
    }

    private int reachedFrom(int lamp) {
        int reached = 1 << lamp;
        for (int i = 0; i < net.lamps; i++) {
            reached = net.spread(reached);
        }
        return reached;
    }

    /** The lamp whose press leaves the fewest in row off their goals, if these are fewer than now. */
    private int greediest(int now) {
        int least = now;
        int found = NONE;
        for (int i = 0; i < net.lamps; i++) {
            int missed = net.missedBehind(row, i);
            if (missed < least) {
                least = missed;
                found = i;
            }
        }
        return found;
    }

    private int plansWith(int lamp, int other, int step) {
        trial.load(net);
        trial.left[lamp][other] = step;
        trial.left[other][lamp] = step;
        trial.reduce();
        setChangeToGoals();
        return trial.fits(change) ? power(net.states, trial.free) : 0;
    }

    private void writeNet() {
        spelled.start();
        spelled.put("states ", net.states);
        spelled.put(";");
        for (int i = 0; i < net.lamps; i++) {
            writeLamp(i);
        }
        for (int i = 0; i < net.lamps; i++) {
            for (int j = i + 1; j < net.lamps; j++) {
                if (net.steps[i][j] != 0) {
                    writeWire(i, j);
                }
            }
        }
    }

    private void writeLamp(int lamp) {
        spelled.put("lamp ", net.shows[lamp]);
        if (net.steps[lamp][lamp] != 1) {
            spelled.put(" own ", net.steps[lamp][lamp]);
        }
        if (net.goals[lamp] != 0) {
            spelled.put(" goal ", net.goals[lamp]);
        }
        spelled.put(";");
    }

    private void writeWire(int lamp, int other) {
        spelled.put("wire ", lamp);
        spelled.put(" ", other);
        if (net.steps[lamp][other] != 1) {
            spelled.put(" by ", net.steps[lamp][other]);
        }
        spelled.put(";");
    }

    /** Wants findBest(fewestRow) ahead of it. */
    private void writeFewest() {
        reported.start();
        if (!hasPlan) {
            reported.put("none;");
            return;
        }
        if (!arePlansTold()) {
            reported.put("many;");
            return;
        }
        for (int i = 0; i < net.lamps; i++) {
            if (fewestRow.found[i] > 0) {
                reported.put("press ", i);
                reported.put(" ", fewestRow.found[i]);
                reported.put(";");
            }
        }
        reported.put("done ", fewestRow.best);
        reported.put(";");
    }

    private static boolean isLayout(int kind, int a, int b) {
        if (kind < KIND_ROW || kind > KIND_STAR || a < 1 || a > MOST_LAMPS || b < 1 || b > MOST_LAMPS) {
            return false;
        }
        if (kind != KIND_GRID && b != 1 || kind == KIND_RING && a < 3) {
            return false;
        }
        return a * b <= MOST_LAMPS;
    }

    /** Lamp i is ahead of lamp j. */
    private static boolean areJoined(int kind, int all, int columns, int i, int j) {
        switch (kind) {
            case KIND_ROW: return j == i + 1;
            case KIND_RING: return j == i + 1 || i == 0 && j == all - 1;
            case KIND_GRID: return j == i + columns || j == i + 1 && mod(j, columns) != 0;
            case KIND_ALL: return true;
            default: return i == 0;
        }
    }

    /** For values of 0 and more. */
    private static int mod(int value, int divisor) {
        return divisor > 0 ? value % divisor : 0;
    }

    private static int power(int states, int exponent) {
        int product = 1;
        for (int i = 0; i < exponent; i++) {
            product *= states;
        }
        return product;
    }

    private static int sum(int[] values, int size) {
        int total = 0;
        for (int i = 0; i < size && i < values.length; i++) {
            total += values[i];
        }
        return total;
    }

    /** Lamps, wires, presses: all that an act may change and undo brings back. */
    private static final class Net {
        int states = 2;
        int lamps;
        int pressed;
        final int[] shows = new int[MOST_LAMPS];
        final int[] goals = new int[MOST_LAMPS];
        /** Own steps stand at [i][i], weights at [i][j] and [j][i]: row i is what a press of lamp i does. */
        final int[][] steps = new int[MOST_LAMPS][MOST_LAMPS];
        final Book entries = new Book();

        boolean has(int lamp) {
            return lamp >= 0 && lamp < lamps;
        }

        boolean isState(int value) {
            return value >= 0 && value < states;
        }

        void empty() {
            states = 2;
            lamps = 0;
            pressed = 0;
            entries.size = 0;
        }

        void copyFrom(Net other) {
            states = other.states;
            lamps = other.lamps;
            pressed = other.pressed;
            System.arraycopy(other.shows, 0, shows, 0, MOST_LAMPS);
            System.arraycopy(other.goals, 0, goals, 0, MOST_LAMPS);
            for (int i = 0; i < MOST_LAMPS; i++) {
                System.arraycopy(other.steps[i], 0, steps[i], 0, MOST_LAMPS);
            }
            entries.copyFrom(other.entries);
        }

        void add(int shown, int step, int aimed) {
            if (lamps >= MOST_LAMPS) {
                return;
            }
            int lamp = lamps;
            lamps++;
            shows[lamp] = shown;
            goals[lamp] = aimed;
            for (int i = 0; i < lamp; i++) {
                join(i, lamp, 0);
            }
            steps[lamp][lamp] = step;
        }

        void remove(int lamp) {
            for (int i = lamp; i < lamps - 1; i++) {
                exchange(i, i + 1);
            }
            lamps--;
        }

        void join(int lamp, int other, int step) {
            steps[lamp][other] = step;
            steps[other][lamp] = step;
        }

        void exchange(int lamp, int other) {
            exchangeIn(shows, lamp, other);
            exchangeIn(goals, lamp, other);
            for (int i = 0; i < lamps; i++) {
                exchangeIn(steps[i], lamp, other);
            }
            for (int i = 0; i < lamps; i++) {
                int step = steps[lamp][i];
                steps[lamp][i] = steps[other][i];
                steps[other][i] = step;
            }
        }

        private static void exchangeIn(int[] values, int i, int j) {
            int value = values[i];
            values[i] = values[j];
            values[j] = value;
        }

        void pressLamp(int lamp, int times) {
            for (int i = 0; i < lamps; i++) {
                shows[i] = mod(shows[i] + times * steps[lamp][i], states);
            }
            pressed += times;
            entries.enter(lamp, times);
        }

        void stepOnce(int[] shown, int lamp) {
            for (int i = 0; i < lamps; i++) {
                shown[i] = mod(shown[i] + steps[lamp][i], states);
            }
        }

        int missed() {
            int found = 0;
            for (int i = 0; i < lamps; i++) {
                if (shows[i] != goals[i]) {
                    found++;
                }
            }
            return found;
        }

        int missedBehind(int[] shown, int lamp) {
            int found = 0;
            for (int i = 0; i < lamps; i++) {
                if (mod(shown[i] + steps[lamp][i], states) != goals[i]) {
                    found++;
                }
            }
            return found;
        }

        int lit() {
            int found = 0;
            for (int i = 0; i < lamps; i++) {
                if (shows[i] != 0) {
                    found++;
                }
            }
            return found;
        }

        int wires() {
            int ends = 0;
            for (int i = 0; i < lamps; i++) {
                ends += Integer.bitCount(neighbours(i));
            }
            return ends / 2;
        }

        int stepsAndWires() {
            int found = wires();
            for (int i = 0; i < lamps; i++) {
                if (steps[i][i] != 0) {
                    found++;
                }
            }
            return found;
        }

        int neighbours(int lamp) {
            int bits = 0;
            for (int i = 0; i < lamps; i++) {
                if (i != lamp && steps[lamp][i] != 0) {
                    bits |= 1 << i;
                }
            }
            return bits;
        }

        /** A set of lamps and all that are wired to one of it. */
        int spread(int set) {
            int bits = set;
            for (int i = 0; i < lamps; i++) {
                if ((set >> i & 1) == 1) {
                    bits |= neighbours(i);
                }
            }
            return bits;
        }
    }

    /** The latest presses, the latest first. */
    private static final class Book {
        int size;
        private final int[] lampOf = new int[MOST_ENTRIES];
        private final int[] timesOf = new int[MOST_ENTRIES];

        void enter(int lamp, int times) {
            for (int k = MOST_ENTRIES - 1; k > 0; k--) {
                lampOf[k] = lampOf[k - 1];
                timesOf[k] = timesOf[k - 1];
            }
            lampOf[0] = lamp;
            timesOf[0] = times;
            size = Math.min(size + 1, MOST_ENTRIES);
        }

        int entry(int k, int what) {
            if (k < 0 || k >= size || what < 0 || what > 1) {
                return NONE;
            }
            return what == 0 ? lampOf[k] : timesOf[k];
        }

        void copyFrom(Book other) {
            size = other.size;
            System.arraycopy(other.lampOf, 0, lampOf, 0, MOST_ENTRIES);
            System.arraycopy(other.timesOf, 0, timesOf, 0, MOST_ENTRIES);
        }
    }

    /** How things were ahead of the latest acts: a ring, in which a 13th act takes the place of the first. */
    private static final class Past {
        int size;
        private int next;
        private final Net[] kept = new Net[MOST_ACTS];

        Past() {
            for (int i = 0; i < MOST_ACTS; i++) {
                kept[i] = new Net();
            }
        }

        void keep(Net net) {
            kept[next].copyFrom(net);
            next = (next + 1) % MOST_ACTS;
            size = Math.min(size + 1, MOST_ACTS);
        }

        void bringBack(Net net) {
            if (size == 0) {
                return;
            }
            next = (next + MOST_ACTS - 1) % MOST_ACTS;
            net.copyFrom(kept[next]);
            size--;
        }
    }

    private static final class Tape {
        int length;
        final byte[] bytes = new byte[TAPE_BYTES];

        void put(int four) {
            for (int shift = 24; shift >= 0 && length < TAPE_BYTES; shift -= 8) {
                bytes[length] = (byte) (four >>> shift);
                length++;
            }
        }
    }

    /** Reads the tape as a text into a draft. Where it stops, start is the fault. */
    private static final class Reader {
        private static final int END = 0;
        private static final int WORD = 1;
        private static final int NUMBER = 2;
        private static final int STOP = 3;
        private static final int WRONG = 4;

        final Net draft = new Net();
        final Tape tape = new Tape();
        private int kind;
        private int start;
        private int end;

        /** The fault, or NONE. */
        int read() {
            draft.empty();
            end = 0;
            kind = STOP;
            advance();
            boolean good = !isWord("states") || readStates();
            for (int i = 0; i < TAPE_BYTES && good && kind != END; i++) {
                good = isWord("lamp") ? readLamp() : isWord("wire") && readWire();
            }
            return good ? NONE : start;
        }

        private boolean readStates() {
            advance();
            if (digit() == 4) {
                return false;
            }
            int states = takeNumber(2, MOST_STATES);
            if (states == NONE) {
                return false;
            }
            draft.states = states;
            return takeStop();
        }

        private boolean readLamp() {
            if (draft.lamps >= MOST_LAMPS) {
                return false;
            }
            advance();
            int most = draft.states - 1;
            int shown = takeNumber(0, most);
            int step = shown == NONE ? NONE : takeOption("own", 1, 0, most);
            int aimed = step == NONE ? NONE : takeOption("goal", 0, 0, most);
            if (aimed == NONE || !takeStop()) {
                return false;
            }
            draft.add(shown, step, aimed);
            return true;
        }

        private boolean readWire() {
            advance();
            int lamp = takeNumber(0, draft.lamps - 1);
            if (lamp == NONE) {
                return false;
            }
            int other = digit();
            if (other == lamp || draft.has(other) && draft.steps[lamp][other] != 0) {
                return false;
            }
            other = takeNumber(0, draft.lamps - 1);
            int step = other == NONE ? NONE : takeOption("by", 1, 1, draft.states - 1);
            if (step == NONE || !takeStop()) {
                return false;
            }
            draft.join(lamp, other, step);
            return true;
        }

        private int takeOption(String word, int without, int least, int most) {
            if (!isWord(word)) {
                return without;
            }
            advance();
            return takeNumber(least, most);
        }

        private int takeNumber(int least, int most) {
            int value = digit();
            if (value == NONE || value < least || value > most) {
                return NONE;
            }
            advance();
            return value;
        }

        private boolean takeStop() {
            if (kind != STOP) {
                return false;
            }
            advance();
            return true;
        }

        private int digit() {
            return kind == NUMBER ? byteAt(start) - '0' : NONE;
        }

        private boolean isWord(String word) {
            if (kind != WORD || end - start != word.length()) {
                return false;
            }
            for (int i = 0; i < word.length(); i++) {
                if (byteAt(start + i) != word.charAt(i)) {
                    return false;
                }
            }
            return true;
        }

        private void advance() {
            int ended = end;
            boolean needsGap = isSpelled(kind);
            while (end < tape.length && isGap(byteAt(end))) {
                end++;
            }
            start = end;
            kind = kindAt(start);
            if (kind != END) {
                end++;
            }
            while (kind == WORD && end < tape.length && kindAt(end) == WORD) {
                end++;
            }
            if (needsGap && start == ended && isSpelled(kind)) {
                kind = WRONG;
            }
        }

        private int kindAt(int i) {
            if (i >= tape.length) {
                return END;
            }
            int sign = byteAt(i);
            if (sign >= 'a' && sign <= 'z') {
                return WORD;
            }
            if (sign >= '0' && sign <= '9') {
                return NUMBER;
            }
            return sign == ';' ? STOP : WRONG;
        }

        private int byteAt(int i) {
            return i >= 0 && i < tape.length ? tape.bytes[i] : 0;
        }

        private static boolean isSpelled(int kind) {
            return kind == WORD || kind == NUMBER;
        }

        private static boolean isGap(int sign) {
            return sign == 32 || sign == 10;
        }
    }

    /**
     * Solves steps times row = change modulo M. Columns are cleared from the last lamp to the first:
     * so the columns left over are just the lamps that can be chosen (each is the first one of a
     * quiet row), and a row that does not press these is the first of all that do the same.
     */
    private static final class Solver {
        boolean known;
        int rank;
        int free;
        int states;
        int size;
        final int[][] left = new int[MOST_LAMPS][MOST_LAMPS];
        /** Which rows of the steps, put together, have become each row of left. */
        private final int[][] made = new int[MOST_LAMPS][MOST_LAMPS];
        private final int[] rowOf = new int[MOST_LAMPS];
        private final int[] turned = new int[MOST_LAMPS];
        final int[] chosen = new int[MOST_LAMPS];
        final int[][] bases = new int[MOST_LAMPS][MOST_LAMPS];

        void load(Net net) {
            states = net.states;
            size = net.lamps;
            for (int i = 0; i < size; i++) {
                System.arraycopy(net.steps[i], 0, left[i], 0, size);
            }
        }

        void clearRow(int lamp) {
            Arrays.fill(left[lamp], 0);
        }

        void clearColumn(int lamp) {
            for (int i = 0; i < size; i++) {
                left[i][lamp] = 0;
            }
        }

        void reduce() {
            for (int i = 0; i < size; i++) {
                Arrays.fill(made[i], 0);
                made[i][i] = 1;
            }
            rank = 0;
            for (int column = size - 1; column >= 0; column--) {
                int found = rowWith(column);
                rowOf[column] = NONE;
                if (found != NONE) {
                    bringUp(found, column);
                    clearOthers(column);
                    rowOf[column] = rank;
                    rank++;
                }
            }
            free = size - rank;
        }

        private int rowWith(int column) {
            for (int i = rank; i < size; i++) {
                if (left[i][column] != 0) {
                    return i;
                }
            }
            return NONE;
        }

        /** Row found and row rank change places, and the one at rank gets 1 in the column. */
        private void bringUp(int found, int column) {
            int factor = inverse(left[found][column]);
            for (int j = 0; j < size; j++) {
                int value = left[found][j];
                left[found][j] = left[rank][j];
                left[rank][j] = mod(factor * value, states);
                int part = made[found][j];
                made[found][j] = made[rank][j];
                made[rank][j] = mod(factor * part, states);
            }
        }

        private int inverse(int value) {
            for (int i = 1; i < states; i++) {
                if (mod(i * value, states) == 1) {
                    return i;
                }
            }
            return 1;
        }

        private void clearOthers(int column) {
            for (int i = 0; i < size; i++) {
                if (i != rank && left[i][column] != 0) {
                    int factor = states - left[i][column];
                    addTimes(left[i], left[rank], factor);
                    addTimes(made[i], made[rank], factor);
                }
            }
        }

        private void addTimes(int[] to, int[] from, int factor) {
            for (int j = 0; j < size; j++) {
                to[j] = mod(to[j] + factor * from[j], states);
            }
        }

        void findBases() {
            int found = 0;
            for (int lamp = 0; lamp < size; lamp++) {
                if (rowOf[lamp] == NONE) {
                    chosen[found] = lamp;
                    fillBase(bases[found], lamp);
                    found++;
                }
            }
        }

        private void fillBase(int[] into, int lamp) {
            for (int i = 0; i < size; i++) {
                into[i] = rowOf[i] == NONE ? 0 : mod(states - left[rowOf[i]][lamp], states);
            }
            into[lamp] = 1;
        }

        /** Whether some row makes this change; if so, firstRow tells it. */
        boolean fits(int[] change) {
            for (int i = 0; i < size; i++) {
                int total = 0;
                for (int j = 0; j < size; j++) {
                    total += made[i][j] * change[j];
                }
                turned[i] = mod(total, states);
                if (i >= rank && turned[i] != 0) {
                    return false;
                }
            }
            return true;
        }

        void firstRow(int[] into) {
            for (int i = 0; i < size; i++) {
                into[i] = rowOf[i] == NONE ? 0 : turned[rowOf[i]];
            }
        }

        boolean isChosen(int lamp) {
            return rowOf[lamp] == NONE;
        }

        /** Whether some quiet row presses the lamp. */
        boolean isMoved(int lamp) {
            for (int k = 0; k < free; k++) {
                if (bases[k][lamp] != 0) {
                    return true;
                }
            }
            return false;
        }

        /** A base has no press ahead of its chosen lamp. */
        void addBase(int k, int[] to) {
            for (int i = chosen[k]; i < size; i++) {
                int value = to[i] + bases[k][i];
                to[i] = value >= states ? value - states : value;
            }
        }
    }

    /** Looks through all rows that do the same for the cheapest, and of several for the first. */
    private static final class Search {
        boolean known;
        int best;
        final int[] found = new int[MOST_LAMPS];
        private final int[] tried = new int[MOST_LAMPS];
        private final boolean byLamps;

        Search(boolean byLamps) {
            this.byLamps = byLamps;
        }

        /** The row first is the first of them. */
        void seek(Solver solver, int[] first) {
            System.arraycopy(first, 0, tried, 0, MOST_LAMPS);
            best = LEVELS;
            descend(this, solver, 0, 0);
        }

        /**
         * Rows come in rising order, as each chosen lamp is pressed 0, 1 .. times. Lamps ahead of the
         * next chosen one do not change any more: once they cost as much as the best, no row is better.
         */
        private static void descend(Search search, Solver solver, int depth, int spent) {
            if (depth > solver.free) {
                return;
            }
            int from = depth == 0 ? 0 : solver.chosen[depth - 1];
            int to = depth < solver.free ? solver.chosen[depth] : solver.size;
            int cost = spent + search.price(from, to);
            if (cost >= search.best) {
                return;
            }
            if (depth == solver.free) {
                search.best = cost;
                System.arraycopy(search.tried, 0, search.found, 0, MOST_LAMPS);
                return;
            }
            for (int times = 0; times < solver.states; times++) {
                descend(search, solver, depth + 1, cost);
                solver.addBase(depth, search.tried);
            }
        }

        private int price(int from, int to) {
            int total = 0;
            for (int i = from; i < to; i++) {
                total += byLamps ? Math.min(tried[i], 1) : tried[i];
            }
            return total;
        }
    }

    /** How many ways there are of each level, and the first of the greatest. */
    private static final class Levels {
        boolean known;
        boolean farKnown;
        int deepest;
        final int[] counts = new int[LEVELS];
        final int[] far = new int[MOST_LAMPS];
        private final int[] turning = new int[MOST_LAMPS];
        private int turningSize;
        private int steadySize;
        private final int[] first = new int[MOST_LAMPS];
        private final int[] way = new int[MOST_LAMPS];
        private final Search search = new Search(false);

        /**
         * Each way has one first row, and these press no chosen lamp. A lamp that no quiet row presses
         * (a steady one) adds its presses to every row of a way: so it is reckoned in at the end, and
         * in the ways of the greatest level it is pressed M less 1 times.
         */
        void measure(Net net, Solver solver) {
            begin(net, solver);
            int all = power(net.states, turningSize);
            for (int i = 0; i < all; i++) {
                search.seek(solver, first);
                note(search.best, net.lamps);
                turn(net);
            }
            for (int i = 0; i < steadySize; i++) {
                spreadCounts(net.states);
            }
            deepest += steadySize * (net.states - 1);
        }

        private void begin(Net net, Solver solver) {
            Arrays.fill(counts, 0);
            Arrays.fill(first, 0);
            System.arraycopy(net.shows, 0, way, 0, MOST_LAMPS);
            deepest = NONE;
            turningSize = 0;
            steadySize = 0;
            for (int lamp = 0; lamp < net.lamps; lamp++) {
                if (solver.isChosen(lamp)) {
                    continue;
                }
                if (solver.isMoved(lamp)) {
                    turning[turningSize] = lamp;
                    turningSize++;
                } else {
                    steadySize++;
                    for (int times = 1; times < net.states; times++) {
                        net.stepOnce(way, lamp);
                    }
                }
            }
        }

        private void note(int reached, int lamps) {
            if (reached < 0 || reached >= LEVELS) {
                return;
            }
            counts[reached]++;
            if (reached > deepest || reached == deepest && isAhead(lamps)) {
                deepest = reached;
                System.arraycopy(way, 0, far, 0, MOST_LAMPS);
            }
        }

        private boolean isAhead(int lamps) {
            for (int i = 0; i < lamps; i++) {
                if (way[i] != far[i]) {
                    return way[i] < far[i];
                }
            }
            return false;
        }

        /** Counts first up by one, its turning lamps being the digits, and brings way along. */
        private void turn(Net net) {
            for (int k = turningSize - 1; k >= 0; k--) {
                int lamp = turning[k];
                net.stepOnce(way, lamp);
                first[lamp]++;
                if (first[lamp] < net.states) {
                    return;
                }
                first[lamp] = 0;
            }
        }

        /** One steady lamp more: pressed 0, 1 .. times, it puts each way as many levels deeper. */
        private void spreadCounts(int states) {
            for (int reached = LEVELS - 1; reached >= 0; reached--) {
                int total = 0;
                for (int times = 0; times < states && times <= reached; times++) {
                    total += counts[reached - times];
                }
                counts[reached] = total;
            }
        }
    }

    /** A text that is written once and asked for byte by byte. */
    private static final class Line {
        boolean known;
        private int length;
        private final byte[] bytes;

        Line(int most) {
            bytes = new byte[Math.max(most, 0)];
        }

        void start() {
            length = 0;
            known = true;
        }

        void put(String words) {
            for (int i = 0; i < words.length(); i++) {
                putByte(words.charAt(i));
            }
        }

        /** A number of 0 .. 99 behind words. */
        void put(String words, int number) {
            put(words);
            if (number >= 10) {
                putByte('0' + number / 10 % 10);
            }
            putByte('0' + number % 10);
        }

        private void putByte(int sign) {
            if (length < bytes.length) {
                bytes[length] = (byte) sign;
                length++;
            }
        }

        int answer(int i) {
            if (i < NONE) {
                return NONE;
            }
            if (i == NONE) {
                return length;
            }
            return i < length ? bytes[i] : CANNOT;
        }
    }
}
