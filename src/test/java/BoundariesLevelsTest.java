/** Boundary cases of promises 45 to 53 and of the 60000 up to which LEVELS are told: a method for each sentence. */
final class BoundariesLevelsTest {
    private static final int NONE = LampPresses.NONE;
    private static final int MOST_TOLD = 60000;

    private BoundariesLevelsTest() {
    }

    public static void main(String[] args) {
        Check.sentences(BoundariesLevelsTest.class, 45, 53);
        Check.end();
    }

    private interface Asked {
        int answer(LampPresses x, int i);
    }

    /** For lamps that have one plan, none, or too many, levels that are told and that are not: NONE comes first. */
    private static void noSuchLamp(String name, Asked asked) {
        for (int n : new int[] {0, 1, 2, 6, 7, 10}) {
            for (Run run : new Run[] {Nets.apart(2, n), Nets.apart(5, n), Nets.lost(5, n), Nets.still(5, n)}) {
                for (int lamp : Nets.outOf(n)) {
                    run.due(name + " of lamp " + lamp + " of " + n, x -> asked.answer(x, lamp), NONE);
                }
                if (n > 0) {
                    Check.due(name + " of lamp 0 of " + n, run.ask(x -> asked.answer(x, 0)) != NONE, true);
                    Check.due(name + " of the last of " + n, run.ask(x -> asked.answer(x, n - 1)) != NONE, true);
                }
            }
        }
        Nets.apart(3, 3).leaves(name + "(3)", x -> asked.answer(x, 3));
        Nets.apart(3, 3).leaves(name + "(2)", x -> asked.answer(x, 2));
    }

    // ---- deepest

    static void promise45ToldUpTo60000() {
        for (int m : Nets.STATES) {
            for (int n = 0; n <= 10; n++) {
                boolean told = Nets.power(m, n) <= MOST_TOLD;
                Nets.apart(m, n).due("deepest of " + n + " apart, " + m + " states", LampPresses::deepest,
                    told ? n * (m - 1) : -3);
                Nets.still(m, n).due("whatever can be come to", LampPresses::deepest, told ? 0 : -3);
                Nets.lost(m, n).due("whatever plans there are", LampPresses::deepest, told ? 0 : -3);
            }
        }
        Nets.apart(3, 10).due("59049 are told", LampPresses::deepest, 20);
        Nets.apart(5, 6).due("15625 are told", LampPresses::deepest, 24);
        Nets.apart(5, 7).due("78125 are not", LampPresses::deepest, -3);
    }

    static void promise45BehindALampMoreOrLess() {
        Run six = Nets.apart(5, 6);
        six.then(LampPresses::deepest, x -> x.lamp(0)).due("a seventh", LampPresses::deepest, -3);
        six.then(x -> x.lamp(0), LampPresses::deepest, LampPresses::undo).due("undone", LampPresses::deepest, 24);
        Nets.apart(5, 7).then(LampPresses::deepest, x -> Run.yes(x.drop(0)))
            .due("one has gone", LampPresses::deepest, 24);
        Nets.apart(5, 7).then(LampPresses::deepest).told("states 3;" + Nets.lamps(7))
            .due("fewer states", LampPresses::deepest, 14);
    }

    static void promise45NoLampsAndNoWay() {
        Run.anew().due("no lamps", LampPresses::deepest, 0);
        Nets.laid(2, 3, 10).due("two ways", LampPresses::deepest, 1);
        Nets.laid(3, 3, 10).due("three ways", LampPresses::deepest, 2);
        Nets.laid(5, 3, 6).due("five ways", LampPresses::deepest, 4);
    }

    // ---- level

    static void promise46Below0() {
        for (Run run : new Run[] {Run.anew(), Nets.apart(3, 10), Nets.apart(5, 7), Nets.still(5, 10)}) {
            for (int l : new int[] {-1, -2, -3, Nets.LEAST}) {
                run.due("level(" + l + ")", x -> x.level(l), NONE);
            }
        }
        Nets.apart(3, 2).leaves("level(-1)", x -> x.level(-1));
    }

    static void promise46ToldUpTo60000() {
        for (int l : new int[] {0, 1, 40, Nets.GREATEST}) {
            Nets.apart(5, 7).due("level(" + l + ") of 78125", x -> x.level(l), -3);
            Nets.still(5, 10).due("level(" + l + ") of 9765625", x -> x.level(l), -3);
        }
        Nets.apart(3, 10).due("level(0) of 59049", x -> x.level(0), 1);
        Nets.apart(5, 6).due("level(1) of 15625", x -> x.level(1), 6);
    }

    static void promise46FromTheFirstToTheDeepest() {
        for (int m : Nets.STATES) {
            for (int i = 0; i <= 6; i++) {
                int n = i;
                int deepest = n * (m - 1);
                Run run = Nets.apart(m, n);
                run.due("level 0: as it is", x -> x.level(0), 1);
                run.due("the deepest", x -> x.level(deepest), 1);
                run.due("one ahead of it", x -> x.level(Math.max(deepest - 1, 0)), n == 0 ? 1 : n);
                for (int deeper : new int[] {deepest + 1, deepest + 2, 40, 41, 42, 1000, Nets.GREATEST}) {
                    run.due("level(" + deeper + ")", x -> x.level(deeper), 0);
                }
            }
        }
        Nets.still(3, 10).due("nothing else can be", x -> x.level(1), 0);
    }

    static void promise46AllLevelsTogetherAreAllWays() {
        Run[] runs = {Nets.apart(3, 10), Nets.apart(5, 6), Nets.laid(2, 0, 5), Nets.laid(3, 1, 10), Nets.laid(5, 4, 6),
            Nets.laid(2, 3, 10), Nets.still(3, 10), Nets.laid(2, 1, 9)};
        for (Run run : runs) {
            long total = 0;
            for (int i = 0; i <= 41; i++) {
                int l = i;
                total += run.ask(x -> x.level(l));
            }
            Check.due("all levels together", total, run.ask(LampPresses::ways));
        }
    }

    // ---- levelOf

    static void promise47Below0AndMToTheNumberOfLamps() {
        for (int m : Nets.STATES) {
            for (int n = 0; n <= 10; n++) {
                int all = Nets.power(m, n);
                for (Run run : new Run[] {Nets.apart(m, n), Nets.lost(m, n)}) {
                    for (int way : new int[] {-1, -2, all, all + 1, 9765625, Nets.LEAST, Nets.GREATEST}) {
                        if (way < 0 || way >= all) {
                            run.due("levelOf(" + way + ") of " + all, x -> x.levelOf(way), NONE);
                        }
                    }
                }
                boolean told = all <= MOST_TOLD;
                Nets.apart(m, n).due("levelOf(0)", x -> x.levelOf(0), told ? 0 : -3);
                Nets.apart(m, n).due("the last", x -> x.levelOf(all - 1), told ? n * (m - 1) : -3);
            }
        }
        Nets.apart(3, 2).leaves("levelOf(9)", x -> x.levelOf(9));
        Nets.apart(3, 2).leaves("levelOf(8)", x -> x.levelOf(8));
    }

    static void promise47ItCantBeComeTo() {
        Nets.still(3, 10).due("as it is", x -> x.levelOf(0), 0);
        Nets.still(3, 10).due("not as it is", x -> x.levelOf(1), -2);
        Nets.still(3, 10).due("the last", x -> x.levelOf(59048), -2);
        Nets.lost(2, 1).due("as it is", x -> x.levelOf(1), 0);
        Nets.lost(2, 1).due("not as it is", x -> x.levelOf(0), -2);
        Run pair = Nets.laid(3, 0, 2);
        int[] due = {0, -2, -2, -2, 1, -2, -2, -2, 2};
        for (int i = 0; i < 9; i++) {
            int way = i;
            pair.due("levelOf(" + i + ") of a pair", x -> x.levelOf(way), due[i]);
        }
    }

    static void promise47NotToldComesAheadOfThat() {
        Nets.still(5, 6).due("15625: it can't", x -> x.levelOf(1), -2);
        Nets.still(5, 7).due("78125: not told", x -> x.levelOf(1), -3);
        Nets.still(5, 7).due("78125: not told, as it is", x -> x.levelOf(0), -3);
        Nets.still(5, 7).due("out of bounds", x -> x.levelOf(78125), NONE);
        Nets.still(5, 10).due("9765625: not told", x -> x.levelOf(9765624), -3);
    }

    static void promise47Lamp0IsTheHighest() {
        for (int m : Nets.STATES) {
            for (int n = 1; n <= 5; n++) {
                Run run = Nets.apart(m, n);
                for (int i = 0; i < n; i++) {
                    int lamp = i;
                    int unit = Nets.power(m, n - 1 - i);
                    run.then(x -> x.goal(lamp, 1)).due("lamp " + i + " shows 1", x -> x.levelOf(unit), 1);
                    run.then(x -> x.own(lamp, m - 1)).due("lamp " + i + " by M less 1", x -> x.levelOf(unit), m - 1);
                    run.then(x -> x.show(lamp, 1)).due("it does already", x -> x.levelOf(unit), 0);
                    run.then(x -> x.show(lamp, 1)).due("round at M", x -> x.levelOf(0), m - 1);
                }
            }
        }
    }

    // ---- far

    static void promise48NoSuchLamp() {
        noSuchLamp("far", LampPresses::far);
    }

    static void promise48ToldUpTo60000() {
        for (int m : Nets.STATES) {
            for (int i = 1; i <= 10; i++) {
                int n = i;
                boolean told = Nets.power(m, n) <= MOST_TOLD;
                Nets.apart(m, n).due("lamp 0 of " + n, x -> x.far(0), told ? m - 1 : -3);
                Nets.apart(m, n).due("the last of " + n, x -> x.far(n - 1), told ? m - 1 : -3);
                Nets.lost(m, n).due("it stays as it is", x -> x.far(n - 1), told ? 1 : -3);
            }
        }
    }

    static void promise48TheFirstWayOfTheGreatestLevel() {
        // A row of five has the quiet row 11011. So 01010, 10001, 10101 are all three presses away.
        String wires = "wire 0 1;wire 1 2;wire 2 3;wire 3 4;";
        String[][] cases = {{"00000", "01010"}, {"11111", "01010"}, {"10000", "00001"}, {"01000", "00010"}};
        for (String[] c : cases) {
            StringBuilder text = new StringBuilder();
            for (char shows : c[0].toCharArray()) {
                text.append("lamp ").append(shows).append(';');
            }
            Run run = Run.of(text + wires);
            run.due("three presses", LampPresses::deepest, 3);
            run.due("three such ways", x -> x.level(3), 3);
            for (int i = 0; i < 5; i++) {
                int lamp = i;
                run.due("lamp " + i + " from " + c[0], x -> x.far(lamp), c[1].charAt(i) - '0');
            }
        }
    }

    // ---- byOwn, byWire

    static void promise49NoSuchLamp() {
        for (int i = 0; i < 2; i++) {
            int step = i;
            noSuchLamp("byOwn to " + i, (x, lamp) -> x.byOwn(lamp, step));
        }
    }

    static void promise49OutOfBounds() {
        for (int m : Nets.STATES) {
            for (int step : Nets.outOf(m)) {
                Nets.apart(m, 2).due("byOwn(1, " + step + ") of " + m, x -> x.byOwn(1, step), NONE);
                Nets.lost(m, 2).due("without a plan", x -> x.byOwn(1, step), NONE);
            }
            Nets.apart(m, 2).due("step 0", x -> x.byOwn(1, 0), m);
            Nets.apart(m, 2).due("step M less 1", x -> x.byOwn(1, m - 1), 1);
        }
    }

    static void promise49AsItIsAndOthers() {
        for (int m : Nets.STATES) {
            for (int i = 0; i < m * m; i++) {
                int is = i / m;
                int step = i % m;
                Run there = Run.of("states " + m + ";lamp 0;lamp 1 own " + is + " goal 1;");
                there.due(m + ": own " + is + ", were it " + step, x -> x.byOwn(1, step), step == 0 ? m : 1);
                Run off = Run.of("states " + m + ";lamp 0;lamp 0 own " + is + " goal 1;");
                off.due(m + ": own " + is + ", were it " + step, x -> x.byOwn(1, step), step == 0 ? 0 : 1);
                there.leaves("byOwn", x -> x.byOwn(1, step));
                off.leaves("byOwn", x -> x.byOwn(1, step));
            }
        }
        Nets.still(5, 10).due("not bound by 60000", x -> x.byOwn(9, 0), 9765625);
    }

    static void promise50NoSuchOnes() {
        for (int n : new int[] {0, 1, 2, 10}) {
            for (Run run : new Run[] {Nets.apart(3, n), Nets.lost(3, n), Nets.still(5, n)}) {
                for (int lamp : Nets.outOf(n)) {
                    run.due("byWire(0, " + lamp + ", 1)", x -> x.byWire(0, lamp, 1), NONE);
                    run.due("byWire(" + lamp + ", 0, 1)", x -> x.byWire(lamp, 0, 1), NONE);
                    run.due("byWire of " + lamp + " twice", x -> x.byWire(lamp, lamp, 1), NONE);
                }
            }
        }
        Nets.apart(3, 10).due("byWire(0, 9, 0)", x -> x.byWire(0, 9, 0), 1);
        Nets.apart(3, 10).due("byWire(9, 0, 1)", x -> x.byWire(9, 0, 1), 3);
    }

    static void promise50BothAreOne() {
        for (int i = 0; i < 30; i++) {
            int lamp = i % 10;
            int weight = i / 10;
            Nets.apart(3, 10).due("byWire of " + lamp, x -> x.byWire(lamp, lamp, weight), NONE);
        }
    }

    static void promise50OutOfBounds() {
        for (int m : Nets.STATES) {
            Run run = Nets.still(m, 2);
            for (int weight : Nets.outOf(m)) {
                run.due("byWire(0, 1, " + weight + ") of " + m, x -> x.byWire(0, 1, weight), NONE);
            }
            run.due("0: no wire", x -> x.byWire(0, 1, 0), m * m);
            run.due("1", x -> x.byWire(1, 0, 1), 1);
            run.due("M less 1", x -> x.byWire(0, 1, m - 1), 1);
        }
    }

    static void promise50AsItIsAndOthers() {
        for (int m : Nets.STATES) {
            for (int i = 0; i < m * m; i++) {
                int is = i / m;
                int weight = i % m;
                Run run = Nets.still(m, 3).then(x -> x.wire(0, 2, is), x -> x.goal(2, 1));
                run.due(m + ": " + is + ", were it " + weight, x -> x.byWire(0, 2, weight), weight == 0 ? 0 : m);
                run.due(m + ": " + is + ", were it " + weight, x -> x.byWire(2, 0, weight), weight == 0 ? 0 : m);
                run.leaves("byWire", x -> x.byWire(2, 0, weight));
            }
        }
        Nets.still(5, 10).due("not bound by 60000", x -> x.byWire(0, 9, 1), 390625);
    }

    // ---- without, mend, even

    static void promise51NoSuchLamp() {
        noSuchLamp("without", LampPresses::without);
    }

    static void promise51FromTheOnlyOneToTen() {
        for (int m : Nets.STATES) {
            for (int i = 1; i <= 10; i++) {
                int n = i;
                Nets.apart(m, n).due("of " + n + " apart", x -> x.without(0), n - 1);
                Nets.apart(m, n).due("of " + n + " apart, the last", x -> x.without(n - 1), n - 1);
                Nets.still(m, n).due("of " + n + " that do nothing", x -> x.without(n - 1), 0);
                Nets.laid(m, 3, n).due("of " + n + " that do the same", x -> x.without(0), n == 1 ? 0 : 1);
            }
            Run pair = Nets.still(m, 2).then(x -> x.wire(0, 1, 1));
            pair.due("two by their wire alone", LampPresses::rank, 2);
            pair.due("without the first", x -> x.without(0), 0);
            pair.due("without the second", x -> x.without(1), 0);
            // Without lamp 0 the others do nothing more.
            Run star = Nets.still(m, 10);
            for (int i = 1; i < 10; i++) {
                int lamp = i;
                star = star.then(x -> x.wire(0, lamp, 1));
            }
            star.due("a star", LampPresses::rank, 2);
            star.due("without its middle", x -> x.without(0), 0);
            star.due("without an end", x -> x.without(9), 2);
            star.leaves("without(0)", x -> x.without(0));
        }
    }

    static void promise52ThereIsOneAlready() {
        Run.anew().due("no lamps", LampPresses::mend, -2);
        Nets.apart(5, 10).due("all show their goals", LampPresses::mend, -2);
        Run.of("states 5;" + "lamp 1 goal 3;".repeat(10)).due("they can come to them", LampPresses::mend, -2);
        Nets.still(5, 10).due("each row is one", LampPresses::mend, -2);
    }

    static void promise52NoneDoes() {
        Nets.lost(3, 1).due("one would do", LampPresses::mend, 0);
        Nets.lost(3, 2).due("two are too many", LampPresses::mend, -2);
        Nets.lost(3, 10).due("ten are too many", LampPresses::mend, -2);
        Nets.still(3, 10).then(x -> x.show(9, 2)).due("the last alone", LampPresses::mend, 90);
        Nets.still(3, 10).then(x -> x.show(9, 2), x -> x.show(0, 1)).due("two", LampPresses::mend, -2);
        Nets.lost(3, 2).leaves("mend", LampPresses::mend);
        Nets.lost(3, 1).leaves("mend", LampPresses::mend);
    }

    static void promise52TheFirstLampAndTheLeastState() {
        for (int i = 0; i < 10; i++) {
            int lamp = i;
            for (int j = 0; j < 5; j++) {
                int goal = j;
                Nets.still(5, 10).then(x -> x.goal(lamp, goal), x -> x.show(lamp, (goal + 1) % 5))
                    .due("lamp " + i + " showing " + j, LampPresses::mend, 10 * lamp + goal);
            }
        }
        // Two that go together: lamp 0 as far off as lamp 1 is, or the other way round.
        Run.of("states 5;lamp 3;lamp 1;wire 0 1;").due("the first of two", LampPresses::mend, 1);
        // Lamp 0 can be stepped by itself and does nothing for lamp 1.
        Run.of("states 5;lamp 3;lamp 1 own 0;").due("the second", LampPresses::mend, 10);
        Run.of("states 5;lamp 3;lamp 1 own 0 goal 4;").due("the second, 4", LampPresses::mend, 14);
    }

    static void promise53FromNoneToAll() {
        for (int m : Nets.STATES) {
            int all = (1 << m) - 1;
            Nets.apart(m, 0).due("no lamps", LampPresses::even, all);
            Nets.apart(m, 10).due("ten apart", LampPresses::even, all);
            Nets.still(m, 10).due("as they are: 0", LampPresses::even, 1);
            Nets.still(m, 10).then(x -> x.lift(m - 1)).due("M less 1", LampPresses::even, 1 << m - 1);
            Nets.still(m, 10).then(x -> x.show(9, 1)).due("none", LampPresses::even, 0);
            Nets.laid(m, 3, 10).due("all go together", LampPresses::even, all);
            Nets.laid(m, 3, 10).then(x -> x.show(0, 1)).due("one is ahead", LampPresses::even, 0);
        }
        Nets.lost(3, 10).due("whatever goals are", LampPresses::even, 2);
        Nets.lost(3, 10).leaves("even", LampPresses::even);
    }
}
