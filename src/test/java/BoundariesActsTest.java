/** Boundary cases of promises 5 to 19 and of the terms that bound ACTS and the BOOK: a method for each sentence. */
final class BoundariesActsTest {
    private static final int NONE = LampPresses.NONE;

    private BoundariesActsTest() {
    }

    public static void main(String[] args) {
        Check.sentences(BoundariesActsTest.class, 5, 19);
        Check.end();
    }

    // ---- lamp

    static void promise5NoSuchState() {
        for (int m : Nets.STATES) {
            for (int shows : Nets.outOf(m)) {
                Nets.apart(m, 1).refuses("lamp(" + shows + ") of " + m + " states", x -> x.lamp(shows), NONE);
            }
            for (int shows = 0; shows < m; shows++) {
                int state = shows;
                Nets.apart(m, 1).due("lamp(" + shows + ")", x -> x.lamp(state), 1);
                Nets.apart(m, 1).then(x -> x.lamp(state)).due("it shows", x -> x.of(1, 0), state);
            }
        }
    }

    static void promise5ThereAreTen() {
        for (int m : Nets.STATES) {
            for (int n = 0; n < 10; n++) {
                Nets.apart(m, n).due("lamp(1) behind " + n, x -> x.lamp(1), n);
            }
            for (int shows = 0; shows < m; shows++) {
                int state = shows;
                Nets.apart(m, 10).refuses("an 11th", x -> x.lamp(state), NONE);
            }
            Nets.apart(m, 10).then(x -> Run.yes(x.drop(3))).due("once one has gone", x -> x.lamp(0), 9);
        }
    }

    static void promise5Own1AndGoal0AndNoWires() {
        Run used = Run.of("states 5;" + Nets.lamps(9) + "lamp 3 own 4 goal 2;wire 0 9 by 3;")
            .then(x -> Run.yes(x.drop(9)));
        used.then(x -> x.lamp(0)).dueSpelled("where another one was", "states 5;" + Nets.lamps(10));
        Run laid = Run.of("states 3;lamp 2 own 2 goal 2;lamp 1 own 0;wire 0 1 by 2;")
            .then(x -> x.lay(0, 1, 1), x -> x.lamp(2));
        laid.dueSpelled("behind lay", "states 3;lamp 0;lamp 2;");
    }

    // ---- drop

    static void promise6ThereIsNoneSuch() {
        for (int n : new int[] {0, 1, 2, 9, 10}) {
            for (int lamp : Nets.outOf(n)) {
                Nets.apart(3, n).refuses("drop(" + lamp + ") of " + n, x -> Run.yes(x.drop(lamp)), 0);
            }
            for (int i = 0; i < n; i++) {
                int lamp = i;
                Nets.apart(3, n).due("drop(" + lamp + ") of " + n, x -> Run.yes(x.drop(lamp)), 1);
                Nets.apart(3, n).then(x -> Run.yes(x.drop(lamp))).due("one fewer", x -> x.count(1), n - 1);
            }
        }
    }

    static void promise6NumbersAboveItAreOneLess() {
        Run run = Run.of("states 5;lamp 0;lamp 1;lamp 2 own 2;lamp 3 goal 3;lamp 4;wire 0 1 by 2;wire 1 2 by 3;"
            + "wire 2 3 by 4;wire 3 4;wire 0 4 by 3;");
        run.then(x -> Run.yes(x.drop(0))).dueSpelled("the first",
            "states 5;lamp 1;lamp 2 own 2;lamp 3 goal 3;lamp 4;wire 0 1 by 3;wire 1 2 by 4;wire 2 3;");
        run.then(x -> Run.yes(x.drop(2))).dueSpelled("the middle",
            "states 5;lamp 0;lamp 1;lamp 3 goal 3;lamp 4;wire 0 1 by 2;wire 0 3 by 3;wire 2 3;");
        run.then(x -> Run.yes(x.drop(4))).dueSpelled("the last",
            "states 5;lamp 0;lamp 1;lamp 2 own 2;lamp 3 goal 3;wire 0 1 by 2;wire 1 2 by 3;wire 2 3 by 4;");
    }

    static void promise6TheLastOneOfAll() {
        Run run = Run.of("states 5;lamp 3 own 0;").then(x -> Run.yes(x.drop(0)));
        run.dueSpelled("none is left", "states 5;");
        run.refuses("drop(0)", x -> Run.yes(x.drop(0)), 0);
        run.then(LampPresses::undo).dueSpelled("undone", "states 5;lamp 3 own 0;");
    }

    // ---- wire

    static void promise7NoSuchLamps() {
        for (int n : new int[] {0, 1, 2, 10}) {
            for (int lamp : Nets.outOf(n)) {
                Nets.apart(3, n).refuses("wire(" + lamp + ", 0, 1) of " + n, x -> x.wire(lamp, 0, 1), NONE);
                Nets.apart(3, n).refuses("wire(0, " + lamp + ", 1) of " + n, x -> x.wire(0, lamp, 1), NONE);
                Nets.apart(3, n).refuses("wire of " + lamp + " twice", x -> x.wire(lamp, lamp, 1), NONE);
            }
        }
        Nets.apart(3, 10).due("wire(0, 9, 1)", x -> x.wire(0, 9, 1), 0);
        Nets.apart(3, 10).due("wire(9, 0, 1)", x -> x.wire(9, 0, 1), 0);
    }

    static void promise7BothAreOne() {
        for (int weight = 0; weight < 3; weight++) {
            int w = weight;
            Nets.apart(3, 2).refuses("wire(0, 0, " + w + ")", x -> x.wire(0, 0, w), NONE);
            Nets.apart(3, 2).refuses("wire(1, 1, " + w + ")", x -> x.wire(1, 1, w), NONE);
        }
    }

    static void promise7OutOfBounds() {
        for (int m : Nets.STATES) {
            Run run = Nets.apart(m, 3).then(x -> x.wire(0, 1, 1));
            for (int weight : Nets.outOf(m)) {
                run.refuses("wire(0, 1, " + weight + ") of " + m, x -> x.wire(0, 1, weight), NONE);
                run.refuses("wire(0, 2, " + weight + ") of " + m, x -> x.wire(0, 2, weight), NONE);
            }
            run.due("M less 1", x -> x.wire(1, 2, m - 1), 0);
            run.then(x -> x.wire(1, 2, m - 1)).due("its weight", x -> x.weight(2, 1), m - 1);
        }
    }

    static void promise7ItIsSo() {
        for (int m : Nets.STATES) {
            for (int weight = 0; weight < m; weight++) {
                int w = weight;
                Run run = w == 0 ? Nets.apart(m, 2) : Nets.apart(m, 2).then(x -> x.wire(1, 0, w));
                for (int other = 0; other < m; other++) {
                    int o = other;
                    if (o == w) {
                        run.refuses(m + ": it is " + w, x -> x.wire(0, 1, o), NONE);
                        run.refuses(m + ": it is " + w, x -> x.wire(1, 0, o), NONE);
                    } else {
                        run.due("it was " + w, x -> x.wire(0, 1, o), w);
                        run.due("it was " + w, x -> x.wire(1, 0, o), w);
                    }
                }
            }
        }
    }

    static void promise7At0ThereIsNone() {
        Run run = Run.of("states 3;" + Nets.lamps(3) + "wire 0 1 by 2;wire 1 2;");
        run.due("wire(1, 0, 0)", x -> x.wire(1, 0, 0), 2);
        run.then(x -> x.wire(1, 0, 0)).dueSpelled("spell", "states 3;" + Nets.lamps(3) + "wire 1 2;");
        run.then(x -> x.wire(1, 0, 0)).due("parts", LampPresses::parts, 2);
    }

    // ---- own, goal, show

    private interface Setter {
        int set(LampPresses x, int lamp, int value);
    }

    private static void noSuchLamp(String name, Setter setter) {
        for (int n : new int[] {0, 1, 2, 10}) {
            for (int lamp : Nets.outOf(n)) {
                Nets.apart(3, n).refuses(name + "(" + lamp + ", 2) of " + n, x -> setter.set(x, lamp, 2), NONE);
            }
            if (n > 0) {
                Nets.apart(3, n).due(name + "(0, 2)", x -> setter.set(x, 0, 2), name.equals("own") ? 1 : 0);
                Nets.apart(3, n).due(name + " of the last", x -> setter.set(x, n - 1, 2), name.equals("own") ? 1 : 0);
            }
        }
    }

    private static void outOfBounds(String name, Setter setter) {
        for (int m : Nets.STATES) {
            for (int value : Nets.outOf(m)) {
                Nets.apart(m, 2).refuses(name + "(1, " + value + ") of " + m + " states",
                    x -> setter.set(x, 1, value), NONE);
            }
        }
    }

    /** Each value set behind each value: which it was, or, if it is the same, NONE. */
    private static void itIsSo(String name, Setter setter, int what) {
        for (int m : Nets.STATES) {
            for (int i = 0; i < m * m; i++) {
                int was = i / m;
                int value = i % m;
                Run run = Run.of("states " + m + ";lamp 0 own 0;lamp " + was + " own " + was + " goal " + was + ";");
                String call = name + "(1, " + value + ") where it is " + was;
                if (was == value) {
                    run.refuses(call, x -> setter.set(x, 1, value), NONE);
                } else {
                    run.due(call, x -> setter.set(x, 1, value), was);
                    run.then(x -> setter.set(x, 1, value)).due(call + ": then", x -> x.of(1, what), value);
                    run.then(x -> setter.set(x, 1, value)).due(call + ": the other", x -> x.of(0, what), 0);
                    Check.due(call + ": undone", run.then(x -> setter.set(x, 1, value), LampPresses::undo).whole(),
                        run.whole());
                }
            }
        }
    }

    static void promise8NoSuchLamp() {
        noSuchLamp("own", LampPresses::own);
    }

    static void promise8OutOfBounds() {
        outOfBounds("own", LampPresses::own);
    }

    static void promise8ItIsSo() {
        itIsSo("own", LampPresses::own, 1);
    }

    static void promise9NoSuchLamp() {
        noSuchLamp("goal", LampPresses::goal);
    }

    static void promise9OutOfBounds() {
        outOfBounds("goal", LampPresses::goal);
    }

    static void promise9ItIsSo() {
        itIsSo("goal", LampPresses::goal, 2);
    }

    static void promise10NoSuchLamp() {
        noSuchLamp("show", LampPresses::show);
    }

    static void promise10OutOfBounds() {
        outOfBounds("show", LampPresses::show);
    }

    static void promise10ItIsSo() {
        itIsSo("show", LampPresses::show, 0);
    }

    static void promise10ItIsNoPress() {
        Run run = Nets.apart(3, 2).then(x -> x.wire(0, 1, 1), x -> x.show(0, 2));
        run.due("presses", x -> x.count(5), 0);
        run.due("entries", x -> x.count(7), 0);
        run.due("the wired one", x -> x.of(1, 0), 0);
    }

    // ---- press

    static void promise11NoSuchLamp() {
        for (int n : new int[] {0, 1, 2, 10}) {
            for (int lamp : Nets.outOf(n)) {
                Nets.apart(3, n).refuses("press(" + lamp + ", 1) of " + n, x -> x.press(lamp, 1), NONE);
            }
            if (n > 0) {
                Nets.apart(3, n).due("press(0, 1)", x -> x.press(0, 1), 1);
                Nets.apart(3, n).due("press of the last", x -> x.press(n - 1, 1), 1);
            }
        }
    }

    static void promise11OneToNineTimes() {
        for (int m : Nets.STATES) {
            Run run = Nets.apart(m, 2);
            for (int times : new int[] {0, -1, -9, 10, 11, 41, 64, Nets.LEAST, Nets.GREATEST}) {
                run.refuses("press(1, " + times + ")", x -> x.press(1, times), NONE);
            }
            for (int n = 1; n <= 9; n++) {
                int times = n;
                run.due("press(1, " + n + ") of " + m, x -> x.press(1, times), n % m);
                run.then(x -> x.press(1, times)).due("presses", x -> x.count(5), n);
                run.then(x -> x.press(1, times)).due("how often", x -> x.book(0, 1), n);
                run.then(x -> x.press(1, times)).due("one act", x -> x.count(3), 1);
            }
        }
    }

    static void promise11ItGoesRoundAtM() {
        for (int m : Nets.STATES) {
            for (int i = 0; i < m * m * m; i++) {
                int shows = i % m;
                int step = i / m % m;
                int weight = i / m / m;
                Run run = Run.of("states " + m + ";lamp " + shows + " own " + step + ";lamp " + shows + " own 0;lamp "
                    + shows + ";" + (weight > 0 ? "wire 0 1 by " + weight + ";" : ""));
                run.due("press(0, 9)", x -> x.press(0, 9), (shows + 9 * step) % m);
                run.then(x -> x.press(0, 1)).due("itself", x -> x.of(0, 0), (shows + step) % m);
                run.then(x -> x.press(0, 1)).due("the wired one", x -> x.of(1, 0), (shows + weight) % m);
                run.then(x -> x.press(0, 1)).due("the other one", x -> x.of(2, 0), shows);
            }
        }
    }

    static void promise11APressThatChangesNothingIsAnAct() {
        Run run = Run.of("states 5;lamp 3 own 0;lamp 2;");
        run.due("own 0", x -> x.press(0, 1), 3);
        Run done = run.then(x -> x.press(0, 1), x -> x.press(1, 5));
        done.due("acts", x -> x.count(3), 2);
        done.due("presses", x -> x.count(5), 6);
        done.due("entries", x -> x.count(7), 2);
        done.dueSpelled("nothing else", "states 5;lamp 3 own 0;lamp 2;");
    }

    // ---- aim

    static void promise12NoneWould() {
        Run.anew().refuses("no lamps", LampPresses::aim, NONE);
        Nets.apart(3, 1).refuses("one", LampPresses::aim, NONE);
        Run.of("states 5;lamp 4 goal 4;lamp 1 goal 1;lamp 0;").refuses("all are there", LampPresses::aim, NONE);
        Run once = Run.of("states 5;lamp 4;lamp 1;").then(LampPresses::aim);
        once.refuses("a second time", LampPresses::aim, NONE);
    }

    static void promise12HowManyChanged() {
        for (int i = 1; i <= 10; i++) {
            int n = i;
            Run all = Run.of("states 5;" + "lamp 4 goal 3;".repeat(n));
            all.due("all of " + n, LampPresses::aim, n);
            all.then(LampPresses::aim).dueSpelled("goals", "states 5;" + "lamp 4 goal 4;".repeat(n));
            Run last = Run.of("states 5;" + "lamp 4 goal 4;".repeat(n - 1) + "lamp 0 goal 1;");
            last.due("the last of " + n, LampPresses::aim, 1);
            last.then(LampPresses::aim).due("its goal", x -> x.of(n - 1, 2), 0);
        }
    }

    // ---- solve

    static void promise13ThereIsNoPlan() {
        Run.of("lamp 1 own 0;").refuses("a lamp that can't be changed", LampPresses::solve, -2);
        Run.of("states 3;lamp 1;lamp 0;wire 0 1;").refuses("two that go together", LampPresses::solve, -2);
        Run.of("states 5;" + "lamp 0 own 0;".repeat(9) + "lamp 0 own 0 goal 1;")
            .refuses("with 9765625 quiet rows", LampPresses::solve, -2);
        Run pressed = Nets.apart(5, 2).then(x -> x.press(0, 2), x -> x.own(0, 0));
        pressed.refuses("behind acts", LampPresses::solve, -2);
    }

    static void promise13ItHasNoPress() {
        Run.anew().refuses("no lamps", LampPresses::solve, NONE);
        Nets.apart(5, 10).refuses("all are there", LampPresses::solve, NONE);
        Run.of("states 3;lamp 2 goal 2;lamp 1 goal 1;wire 0 1;")
            .refuses("the first of several has none", LampPresses::solve, NONE);
        Run.of("states 3;lamp 2 own 0 goal 2;").refuses("own 0", LampPresses::solve, NONE);
    }

    static void promise13HowManyPresses() {
        for (int m : Nets.STATES) {
            for (int i = 1; i < m; i++) {
                int presses = i;
                Run run = Nets.apart(m, 2).then(x -> x.goal(1, presses));
                run.due(i + " of one lamp", LampPresses::solve, i);
                run.then(LampPresses::solve).due("it shows its goal", x -> x.of(1, 0), i);
                run.then(LampPresses::solve).due("PRESSED", x -> x.count(5), i);
                run.then(LampPresses::solve).due("one entry", x -> x.count(7), 1);
                run.then(LampPresses::solve).due("how often", x -> x.book(0, 1), i);
            }
        }
        Run most = Run.of("states 5;" + "lamp 1;".repeat(10));
        most.due("the most", LampPresses::solve, 40);
        most.then(LampPresses::solve).due("PRESSED", x -> x.count(5), 40);
        most.then(LampPresses::solve).due("one act", x -> x.count(3), 1);
        most.then(LampPresses::solve).due("off", LampPresses::off, 0);
        most.then(LampPresses::solve).refuses("a second time", LampPresses::solve, NONE);
        Check.due("undone", most.then(LampPresses::solve, LampPresses::undo).whole(), most.whole());
    }

    static void promise13NotBoundBy60000() {
        Run run = Run.of("states 5;" + "lamp 0 own 0;".repeat(9) + "lamp 3;");
        run.due("-3 is not for solve", LampPresses::solve, 2);
        run.then(LampPresses::solve).due("the lamp", x -> x.book(0, 0), 9);
    }

    static void promise13LampsComeOneBehindAnotherByNumbers() {
        Run run = Run.of("states 5;lamp 1;lamp 0;lamp 3;lamp 2;").then(LampPresses::solve);
        run.due("entries: of those that are pressed", x -> x.count(7), 3);
        int[][] due = {{3, 3}, {2, 2}, {0, 4}};
        for (int k = 0; k < 3; k++) {
            int at = k;
            run.due("lamp of entry " + k, x -> x.book(at, 0), due[k][0]);
            run.due("times of entry " + k, x -> x.book(at, 1), due[k][1]);
        }
    }

    static void promise13TheBookKeepsTwenty() {
        Run run = Nets.apart(5, 10).times(9, x -> x.press(0, 5)).then(x -> x.press(1, 5)).times(2, x -> x.press(0, 5))
            .then(x -> x.lift(1));
        run.due("twelve entries", x -> x.count(7), 12);
        Run solved = run.then(LampPresses::solve);
        solved.due("ten more", x -> x.count(7), 20);
        solved.due("the latest", x -> x.book(0, 0) * 10 + x.book(0, 1), 94);
        solved.due("the first of the ten", x -> x.book(9, 0) * 10 + x.book(9, 1), 4);
        solved.due("the latest press", x -> x.book(10, 0) * 10 + x.book(10, 1), 5);
        solved.due("the tenth press", x -> x.book(12, 0) * 10 + x.book(12, 1), 15);
        solved.due("the third press", x -> x.book(19, 0) * 10 + x.book(19, 1), 5);
        solved.due("no 21st", x -> x.book(20, 0), NONE);
        Check.due("undone", solved.then(LampPresses::undo).booked(), run.booked());
    }

    // ---- lay

    private static void lays(int kind, int a, int b, String wires) {
        StringBuilder text = new StringBuilder("states 3;" + Nets.lamps(a * b));
        for (String pair : wires.isEmpty() ? new String[0] : wires.split(" ")) {
            text.append("wire ").append(pair.charAt(0)).append(' ').append(pair.charAt(1)).append(';');
        }
        Run run = Run.of("states 3;lamp 2 own 0 goal 1;lamp 1;wire 0 1 by 2;");
        String call = "lay(" + kind + ", " + a + ", " + b + ")";
        run.due(call, x -> x.lay(kind, a, b), a * b);
        run.then(x -> x.lay(kind, a, b)).dueSpelled(call + ": spell", text.toString());
        Check.due(call + ": undone", run.then(x -> x.lay(kind, a, b), LampPresses::undo).whole(), run.whole());
    }

    private static void laysNothing(int kind, int a, int b) {
        Run run = Run.of("states 3;lamp 2 own 0 goal 1;lamp 1;wire 0 1 by 2;").then(x -> x.press(1, 2));
        run.refuses("lay(" + kind + ", " + a + ", " + b + ")", x -> x.lay(kind, a, b), NONE);
    }

    static void promise14Kinds0To4() {
        lays(0, 3, 1, "01 12");
        lays(1, 3, 1, "01 02 12");
        lays(2, 3, 1, "01 12");
        lays(3, 3, 1, "01 02 12");
        lays(4, 3, 1, "01 02");
        for (int kind : new int[] {-1, 5, 6, -2, Nets.LEAST, Nets.GREATEST}) {
            laysNothing(kind, 3, 1);
        }
    }

    static void promise14ARowOf1To10() {
        lays(0, 1, 1, "");
        lays(0, 2, 1, "01");
        lays(0, 9, 1, "01 12 23 34 45 56 67 78");
        lays(0, 10, 1, "01 12 23 34 45 56 67 78 89");
        laysNothing(0, 0, 1);
        laysNothing(0, -1, 1);
        laysNothing(0, 11, 1);
        laysNothing(0, Nets.LEAST, 1);
        laysNothing(0, Nets.GREATEST, 1);
    }

    static void promise14ARingOf3To10() {
        lays(1, 3, 1, "01 02 12");
        lays(1, 4, 1, "01 03 12 23");
        lays(1, 9, 1, "01 08 12 23 34 45 56 67 78");
        lays(1, 10, 1, "01 09 12 23 34 45 56 67 78 89");
        for (int a : new int[] {2, 1, 0, -1, -3, 11, Nets.LEAST, Nets.GREATEST}) {
            laysNothing(1, a, 1);
        }
    }

    static void promise14AllToAllOf1To10() {
        lays(3, 1, 1, "");
        lays(3, 2, 1, "01");
        lays(3, 4, 1, "01 02 03 12 13 23");
        StringBuilder all = new StringBuilder();
        for (int i = 0; i < 10; i++) {
            for (int j = i + 1; j < 10; j++) {
                all.append(i).append(j).append(' ');
            }
        }
        lays(3, 10, 1, all.toString().trim());
        for (int a : new int[] {0, -1, 11, Nets.LEAST, Nets.GREATEST}) {
            laysNothing(3, a, 1);
        }
    }

    static void promise14AStarOf1To10() {
        lays(4, 1, 1, "");
        lays(4, 2, 1, "01");
        lays(4, 9, 1, "01 02 03 04 05 06 07 08");
        lays(4, 10, 1, "01 02 03 04 05 06 07 08 09");
        for (int a : new int[] {0, -1, 11, Nets.LEAST, Nets.GREATEST}) {
            laysNothing(4, a, 1);
        }
    }

    static void promise14BIs1ButForKind2() {
        for (int kind : new int[] {0, 1, 3, 4}) {
            for (int b : new int[] {0, 2, 3, -1, Nets.LEAST, Nets.GREATEST}) {
                laysNothing(kind, 3, b);
            }
        }
    }

    static void promise14ATimesB10AtMost() {
        lays(2, 1, 1, "");
        lays(2, 1, 2, "01");
        lays(2, 2, 1, "01");
        lays(2, 1, 10, "01 12 23 34 45 56 67 78 89");
        lays(2, 10, 1, "01 12 23 34 45 56 67 78 89");
        lays(2, 2, 5, "01 05 12 16 23 27 34 38 49 56 67 78 89");
        lays(2, 5, 2, "01 02 13 23 24 35 45 46 57 67 68 79 89");
        lays(2, 3, 3, "01 03 12 14 25 34 36 45 47 58 67 78");
        lays(2, 2, 2, "01 02 13 23");
        int[][] wrong = {{1, 11}, {11, 1}, {2, 6}, {6, 2}, {3, 4}, {4, 3}, {10, 2}, {2, 10}, {0, 1}, {1, 0}, {0, 0},
            {-1, 1}, {1, -1}, {-1, -1}, {-2, -5}, {10, 0}, {65536, 65536}, {1 << 16, 1 << 15},
            {Nets.GREATEST, Nets.GREATEST}, {Nets.LEAST, Nets.LEAST}, {Nets.LEAST, 2}, {2, Nets.LEAST},
            {1, Nets.GREATEST}, {Nets.GREATEST, 1}};
        for (int[] w : wrong) {
            laysNothing(2, w[0], w[1]);
        }
    }

    static void promise14PressedAndTheBookStay() {
        Run run = Nets.apart(5, 3).then(x -> x.press(2, 7), x -> x.lay(0, 1, 1));
        run.due("M", x -> x.count(0), 5);
        run.due("PRESSED", x -> x.count(5), 7);
        run.due("entries", x -> x.count(7), 1);
        run.due("of which lamp", x -> x.book(0, 0), 2);
        run.due("how often", x -> x.book(0, 1), 7);
    }

    static void promise14TheSameAgainIsAnAct() {
        Run run = Nets.apart(3, 0).times(2, x -> x.lay(3, 4, 1));
        run.due("acts", x -> x.count(3), 2);
    }

    // ---- swap

    static void promise15NoSuchOnes() {
        for (int n : new int[] {0, 1, 2, 10}) {
            for (int lamp : Nets.outOf(n)) {
                Nets.apart(3, n).refuses("swap(0, " + lamp + ")", x -> Run.yes(x.swap(0, lamp)), 0);
                Nets.apart(3, n).refuses("swap(" + lamp + ", 0)", x -> Run.yes(x.swap(lamp, 0)), 0);
                Nets.apart(3, n).refuses("swap of " + lamp + " twice", x -> Run.yes(x.swap(lamp, lamp)), 0);
            }
        }
        Nets.apart(3, 10).due("swap(0, 9)", x -> Run.yes(x.swap(0, 9)), 1);
        Nets.apart(3, 10).due("swap(9, 8)", x -> Run.yes(x.swap(9, 8)), 1);
    }

    static void promise15BothAreOne() {
        Run run = Run.of("states 3;lamp 1 own 2;lamp 2 goal 1;lamp 0;wire 0 1 by 2;");
        for (int i = 0; i < 3; i++) {
            int lamp = i;
            run.refuses("swap(" + i + ", " + i + ")", x -> Run.yes(x.swap(lamp, lamp)), 0);
        }
    }

    static void promise15TheFirstAndTheLastAndNeighbours() {
        Run run = Run.of("states 5;lamp 1 own 2;lamp 2 goal 1;lamp 3;wire 0 1 by 2;wire 0 2 by 4;");
        String ends = "states 5;lamp 3;lamp 2 goal 1;lamp 1 own 2;wire 0 2 by 4;wire 1 2 by 2;";
        run.then(x -> Run.yes(x.swap(0, 2))).dueSpelled("swap(0, 2)", ends);
        run.then(x -> Run.yes(x.swap(2, 0))).dueSpelled("swap(2, 0)", ends);
        run.then(x -> Run.yes(x.swap(0, 1))).dueSpelled("swap(0, 1)",
            "states 5;lamp 2 goal 1;lamp 1 own 2;lamp 3;wire 0 1 by 2;wire 1 2 by 4;");
        run.times(2, x -> Run.yes(x.swap(1, 2))).dueSpelled("twice", run.spelled());
        run.times(2, x -> Run.yes(x.swap(1, 2))).due("two acts", x -> x.count(3), 2);
        Nets.apart(2, 2).then(x -> Run.yes(x.swap(0, 1))).due("of two alike: an act", x -> x.count(3), 1);
    }

    // ---- lift

    static void promise16OutOfBounds() {
        for (int m : Nets.STATES) {
            for (int v : Nets.outOf(m)) {
                Nets.apart(m, 2).refuses("lift(" + v + ") of " + m + " states", x -> x.lift(v), NONE);
            }
            Nets.apart(m, 2).refuses("lift(0)", x -> x.lift(0), NONE);
            Nets.apart(m, 2).due("lift(1)", x -> x.lift(1), 2);
            Nets.apart(m, 2).due("lift(M less 1)", x -> x.lift(m - 1), 2);
        }
    }

    static void promise16ThereAreNone() {
        for (int m : Nets.STATES) {
            Run.of("states " + m + ";").refuses("lift(1)", x -> x.lift(1), NONE);
            Nets.apart(m, 1).due("of one", x -> x.lift(1), 1);
            Nets.apart(m, 10).due("of ten", x -> x.lift(1), 10);
        }
    }

    static void promise16ItGoesRoundAtM() {
        for (int m : Nets.STATES) {
            StringBuilder text = new StringBuilder("states " + m + ";");
            for (int shows = 0; shows < m; shows++) {
                text.append("lamp ").append(shows).append(" own 0 goal 1;");
            }
            Run run = Run.of(text.toString());
            for (int i = 1; i < m; i++) {
                int v = i;
                for (int j = 0; j < m; j++) {
                    int lamp = j;
                    run.then(x -> x.lift(v)).due("it shows", x -> x.of(lamp, 0), (lamp + v) % m);
                }
                run.then(x -> x.lift(v)).due("it is no press", x -> x.count(5) + x.count(7), 0);
                Check.due("undone", run.then(x -> x.lift(v), LampPresses::undo).whole(), run.whole());
            }
        }
    }

    // ---- scale

    static void promise17OutOfBounds() {
        for (int m : Nets.STATES) {
            Run run = Nets.apart(m, 2).then(x -> x.wire(0, 1, 1));
            for (int u : Nets.outOf(m)) {
                run.refuses("scale(" + u + ") of " + m + " states", x -> x.scale(u), NONE);
            }
            run.refuses("scale(0)", x -> x.scale(0), NONE);
            run.refuses("scale(1)", x -> x.scale(1), NONE);
        }
        Nets.apart(3, 2).due("scale(2), M less 1", x -> x.scale(2), 2);
        Nets.apart(5, 2).due("scale(2)", x -> x.scale(2), 2);
        Nets.apart(5, 2).due("scale(4), M less 1", x -> x.scale(4), 2);
    }

    static void promise17NoneWould() {
        for (int m : new int[] {3, 5}) {
            Run.of("states " + m + ";").refuses("no lamps", x -> x.scale(2), NONE);
            Run still = Run.of("states " + m + ";lamp 1 own 0;lamp 2 own 0 goal 1;");
            still.refuses("all own steps are 0", x -> x.scale(2), NONE);
            still.then(x -> x.wire(0, 1, 1)).due("one wire", x -> x.scale(2), 1);
            still.then(x -> x.own(1, 1)).due("one own step", x -> x.scale(2), 1);
            still.then(x -> x.own(1, 1), x -> x.wire(0, 1, 1)).due("both", x -> x.scale(2), 2);
        }
        Run all = Nets.apart(5, 0).then(x -> x.lay(3, 10, 1));
        all.due("the most", x -> x.scale(3), 55);
    }

    static void promise17ItGoesRoundAtM() {
        for (int i = 2; i < 5; i++) {
            int u = i;
            for (int j = 1; j < 5; j++) {
                int step = j;
                Run run = Run.of("states 5;lamp 3 own " + j + " goal 4;lamp 0 own 0;wire 0 1 by " + j + ";");
                run.due("scale(" + u + ")", x -> x.scale(u), 2);
                run.then(x -> x.scale(u)).due("own", x -> x.of(0, 1), u * step % 5);
                run.then(x -> x.scale(u)).due("weight", x -> x.weight(1, 0), u * step % 5);
                run.then(x -> x.scale(u)).due("own 0", x -> x.of(1, 1), 0);
                run.then(x -> x.scale(u)).due("what it shows", x -> x.of(0, 0), 3);
                run.then(x -> x.scale(u)).due("its goal", x -> x.of(0, 2), 4);
                Check.due("undone", run.then(x -> x.scale(u), LampPresses::undo).whole(), run.whole());
            }
        }
    }

    // ---- mirror

    static void promise18FewerThanTwo() {
        Run.anew().refuses("none", LampPresses::mirror, NONE);
        Run.of("states 3;lamp 2 own 0 goal 1;").refuses("one", LampPresses::mirror, NONE);
        for (int n = 2; n <= 10; n++) {
            Nets.apart(3, n).due("of " + n, LampPresses::mirror, n);
            Nets.apart(3, n).then(LampPresses::mirror).due("an act", x -> x.count(3), 1);
        }
    }

    static void promise18TheOtherWayRound() {
        Run two = Run.of("states 3;lamp 2 own 0;lamp 1 goal 2;wire 0 1 by 2;").then(LampPresses::mirror);
        two.dueSpelled("two", "states 3;lamp 1 goal 2;lamp 2 own 0;wire 0 1 by 2;");
        Run three = Run.of("states 3;lamp 2 own 0;lamp 1 goal 2;lamp 0;wire 0 1 by 2;").then(LampPresses::mirror);
        three.dueSpelled("three", "states 3;lamp 0;lamp 1 goal 2;lamp 2 own 0;wire 1 2 by 2;");
        Run four = Run.of("states 5;lamp 0;lamp 1;lamp 2;lamp 3;wire 0 1 by 2;wire 1 2 by 3;wire 0 3 by 4;")
            .then(LampPresses::mirror);
        four.dueSpelled("four", "states 5;lamp 3;lamp 2;lamp 1;lamp 0;wire 0 3 by 4;wire 1 2 by 3;wire 2 3 by 2;");
        four.then(LampPresses::mirror).dueSpelled("and back",
            "states 5;lamp 0;lamp 1;lamp 2;lamp 3;wire 0 1 by 2;wire 0 3 by 4;wire 1 2 by 3;");
        Run ten = Nets.apart(5, 0).then(x -> x.lay(4, 10, 1), LampPresses::mirror);
        ten.due("the hub of ten", LampPresses::hub, 9);
    }

    // ---- undo

    static void promise19NoneCan() {
        Run.anew().refuses("a new object", LampPresses::undo, NONE);
        Nets.apart(3, 2).refuses("behind a text", LampPresses::undo, NONE);
        Run one = Nets.apart(3, 2).then(x -> x.press(0, 1));
        one.due("one can", LampPresses::undo, 0);
        one.then(LampPresses::undo).refuses("no second one", LampPresses::undo, NONE);
        Check.due("undone", one.then(LampPresses::undo).whole(), Nets.apart(3, 2).whole());
    }

    static void promise19TheLatestTwelve() {
        for (int acts : new int[] {1, 11, 12, 13, 14, 24, 25, 40}) {
            Run run = Nets.apart(5, 1).times(acts, x -> x.press(0, 1));
            int kept = Math.min(acts, 12);
            run.due("acts of " + acts, x -> x.count(3), kept);
            for (int k = 1; k <= kept; k++) {
                run.due("undo", LampPresses::undo, kept - k);
                run = run.then(LampPresses::undo);
                int left = acts - k;
                run.due("presses", x -> x.count(5), left);
                run.due("shows", x -> x.of(0, 0), left % 5);
            }
            run.refuses("no more", LampPresses::undo, NONE);
        }
    }

    static void promise19ActsBehindUndo() {
        Run twelve = Nets.apart(5, 1).times(12, x -> x.press(0, 1));
        Run mixed = twelve.times(5, LampPresses::undo).times(4, x -> x.press(0, 2));
        mixed.due("seven and four", x -> x.count(3), 11);
        mixed.then(x -> x.press(0, 3)).due("and one", x -> x.count(3), 12);
        mixed.times(2, x -> x.press(0, 3)).due("and one more", x -> x.count(3), 12);
        Run all = mixed.times(2, x -> x.press(0, 3)).times(12, LampPresses::undo);
        all.due("the first one stays", x -> x.count(5), 1);
        all.refuses("no more", LampPresses::undo, NONE);
    }

    static void promise19EachActIsTakenBack() {
        Run run = Run.of("states 5;lamp 1 own 2;lamp 2 goal 3;lamp 4 goal 1;wire 0 1 by 3;wire 1 2 by 4;")
            .then(x -> x.press(0, 3)).put("lamp 1;");
        Run.Call[] acts = {x -> x.lamp(3), x -> Run.yes(x.drop(1)), x -> x.wire(0, 2, 2), x -> x.own(0, 0),
            x -> x.goal(0, 4), x -> x.show(0, 4), x -> x.press(1, 4), LampPresses::aim, LampPresses::solve,
            x -> x.lay(3, 7, 1), x -> Run.yes(x.swap(0, 2)), x -> x.lift(3), x -> x.scale(3), LampPresses::mirror};
        for (int i = 0; i < acts.length; i++) {
            Run acted = run.then(acts[i]);
            acted.due("act " + i + " counts", x -> x.count(3), 2);
            acted.due("act " + i + ": one more can be", LampPresses::undo, 1);
            Check.due("act " + i + " is taken back", acted.then(LampPresses::undo).whole(), run.whole());
            Check.due("act " + i + " changes something", acted.whole().equals(run.whole()), false);
        }
    }

    static void promise19FeedAndBackAreNoActs() {
        Run run = Nets.apart(3, 1).then(x -> x.press(0, 1)).put("lamp 1;lamp 0;");
        run.due("acts", x -> x.count(3), 1);
        run.then(LampPresses::undo).due("the tape stays", x -> x.count(4), 14);
        run.then(LampPresses::undo).due("as it was", LampPresses::text, 2);
    }

    static void promise19RefusedActsDoNotCount() {
        Run run = Run.of("states 3;lamp 1;").times(12, x -> x.press(0, 1));
        Run.Call[] refused = {x -> x.lamp(3), x -> Run.yes(x.drop(1)), x -> x.wire(0, 0, 1), x -> x.own(0, 1),
            x -> x.goal(0, 0), x -> x.show(0, 1), x -> x.press(0, 10), x -> x.lay(1, 2, 1),
            x -> Run.yes(x.swap(0, 0)), x -> x.lift(3), x -> x.scale(1), LampPresses::mirror};
        for (int i = 0; i < refused.length; i++) {
            run.leaves("refused act " + i, refused[i]);
        }
        Run there = Run.of("states 3;lamp 0;").times(12, x -> x.press(0, 3));
        there.leaves("aim", LampPresses::aim);
        there.leaves("solve", LampPresses::solve);
    }

    static void promise19PressedAndTheBookAreUndone() {
        for (int presses : new int[] {19, 20, 21, 22}) {
            Run run = Nets.apart(5, 2).times(presses, x -> x.press(x.count(5) % 2, 1));
            Run more = run.then(x -> x.press(1, 9));
            Check.due("undone behind " + presses, more.then(LampPresses::undo).booked(), run.booked());
        }
    }
}
