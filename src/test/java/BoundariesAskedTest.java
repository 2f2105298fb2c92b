/** Boundary cases of promises 20 to 44 and of the 60000 up to which PLANS are told: a method for each sentence. */
final class BoundariesAskedTest {
    private static final int NONE = LampPresses.NONE;

    private BoundariesAskedTest() {
    }

    public static void main(String[] args) {
        Check.sentences(BoundariesAskedTest.class, 20, 44);
        Check.end();
    }

    private interface Asked {
        int answer(LampPresses x, int i);
    }

    /** For lamps that have one plan, none, or too many: NONE comes ahead of -2 and -3. */
    private static void noSuchLamp(String name, Asked asked, int special) {
        for (int n : new int[] {0, 1, 2, 9, 10}) {
            for (Run run : new Run[] {Nets.apart(3, n), Nets.lost(3, n), Nets.still(5, n)}) {
                for (int lamp : Nets.outOf(n)) {
                    if (lamp != special) {
                        run.due(name + " of lamp " + lamp + " of " + n, x -> asked.answer(x, lamp), NONE);
                    }
                }
                if (n > 0) {
                    Check.due(name + " of lamp 0 of " + n, run.ask(x -> asked.answer(x, 0)) != NONE, true);
                    Check.due(name + " of the last of " + n, run.ask(x -> asked.answer(x, n - 1)) != NONE, true);
                }
            }
        }
        Nets.apart(3, 3).leaves(name + "(3)", x -> asked.answer(x, 3));
        Nets.apart(3, 3).leaves(name + "(2)", x -> asked.answer(x, 2));
    }

    private static void noSuchLamp(String name, Asked asked) {
        noSuchLamp(name, asked, 10000);
    }

    // ---- of, weight

    static void promise20NoSuchLamp() {
        for (int what = 0; what < 6; what++) {
            int asked = what;
            noSuchLamp("of, " + what, (x, lamp) -> x.of(lamp, asked));
        }
    }

    static void promise20NoneForOthers() {
        for (int what : Nets.outOf(6)) {
            Nets.apart(3, 2).due("of(0, " + what + ")", x -> x.of(0, what), NONE);
            Nets.apart(3, 2).due("of(2, " + what + ")", x -> x.of(2, what), NONE);
        }
    }

    static void promise20NoWiresAndNine() {
        for (int what = 3; what <= 5; what++) {
            int asked = what;
            Nets.apart(5, 10).due("without wires, " + what, x -> x.of(9, asked), 0);
        }
        Run all = Nets.laid(5, 3, 10).then(x -> x.scale(4), x -> x.own(9, 2));
        all.due("nine wires", x -> x.of(9, 3), 9);
        all.due("all but the last", x -> x.of(9, 4), 511);
        all.due("all but the first", x -> x.of(0, 4), 1022);
        all.due("nine times 4, own is not in it", x -> x.of(9, 5), 36);
        Run ends = Nets.apart(2, 10).then(x -> x.wire(0, 9, 1));
        ends.due("the last bit", x -> x.of(0, 4), 512);
        ends.due("the first bit", x -> x.of(9, 4), 1);
    }

    static void promise20EachStateAndStep() {
        for (int m : Nets.STATES) {
            for (int i = 0; i < m; i++) {
                int v = i;
                Run run = Run.of("states " + m + ";lamp " + v + " own " + (m - 1 - v) + " goal " + (v + 1) % m + ";");
                run.due("shows", x -> x.of(0, 0), v);
                run.due("own", x -> x.of(0, 1), m - 1 - v);
                run.due("goal", x -> x.of(0, 2), (v + 1) % m);
            }
        }
    }

    static void promise21NoSuchLamps() {
        noSuchLamp("weight, the other", (x, lamp) -> x.weight(0, lamp));
        noSuchLamp("weight, the first", (x, lamp) -> x.weight(lamp, 0));
        noSuchLamp("weight of itself", (x, lamp) -> x.weight(lamp, lamp));
    }

    static void promise21NoWireIs0AndItselfIsOwn() {
        Run run = Run.of("states 5;lamp 0 own 0;lamp 0 own 4;lamp 0;wire 0 1 by 4;");
        run.due("a wire", x -> x.weight(0, 1), 4);
        run.due("the other way", x -> x.weight(1, 0), 4);
        run.due("none", x -> x.weight(0, 2), 0);
        run.due("own 0", x -> x.weight(0, 0), 0);
        run.due("own 4", x -> x.weight(1, 1), 4);
        run.due("own without", x -> x.weight(2, 2), 1);
    }

    // ---- rank, quiet, base

    static void promise22From0ToTen() {
        for (int m : Nets.STATES) {
            for (int n = 0; n <= 10; n++) {
                Nets.apart(m, n).due("rank of " + n + " apart", LampPresses::rank, n);
                Nets.still(m, n).due("rank of " + n + " that do nothing", LampPresses::rank, 0);
                Nets.lost(m, n).due("rank is not bound by plans", LampPresses::rank, 0);
                if (n > 0) {
                    Nets.laid(m, 3, n).due("rank of " + n + " that do the same", LampPresses::rank, 1);
                }
            }
        }
    }

    static void promise23From1ToMToTheTenth() {
        for (int m : Nets.STATES) {
            for (int n = 0; n <= 10; n++) {
                Nets.apart(m, n).due("quiet of " + n + " apart", LampPresses::quiet, 1);
                Nets.still(m, n).due("quiet of " + n + " that do nothing", LampPresses::quiet, Nets.power(m, n));
                Nets.lost(m, n).due("also without a plan", LampPresses::quiet, Nets.power(m, n));
                if (n > 0) {
                    Nets.laid(m, 3, n).due("quiet of " + n + " that do the same", LampPresses::quiet,
                        Nets.power(m, n - 1));
                }
            }
        }
    }

    static void promise24NoSuchOnes() {
        for (int n = 0; n <= 10; n++) {
            for (Run run : new Run[] {Nets.still(3, n), Nets.lost(5, n)}) {
                for (int lamp : Nets.outOf(n)) {
                    run.due("base(0, " + lamp + ") of " + n, x -> x.base(0, lamp), NONE);
                }
            }
        }
        Nets.still(3, 3).leaves("base(0, 3)", x -> x.base(0, 3));
        Nets.still(3, 3).leaves("base(2, 2)", x -> x.base(2, 2));
        for (int m : Nets.STATES) {
            for (int n = 0; n <= 10; n++) {
                Run none = Nets.apart(m, n);
                none.due("no quiet row but one: base(0, 0)", x -> x.base(0, 0), NONE);
                none.due("base(-1, 0)", x -> x.base(-1, 0), NONE);
                Run all = Nets.still(m, n);
                for (int k : Nets.outOf(n)) {
                    all.due("base(" + k + ", 0) of " + n, x -> x.base(k, 0), NONE);
                }
                for (int i = 0; i < n; i++) {
                    int k = i;
                    all.due("base(k, k)", x -> x.base(k, k), 1);
                    all.due("base(k, 0)", x -> x.base(k, 0), k == 0 ? 1 : 0);
                }
            }
        }
    }

    static void promise24KGoesByLampsThatCanBeChosen() {
        for (int m : Nets.STATES) {
            Run run = Nets.laid(m, 3, 10);
            for (int i = 0; i < 9; i++) {
                int k = i;
                for (int j = 0; j < 10; j++) {
                    int lamp = j;
                    int want = j == k ? 1 : j == 9 ? m - 1 : 0;
                    run.due("base(" + k + ", " + j + ") of ten that do the same", x -> x.base(k, lamp), want);
                }
            }
            run.due("base(9, 0)", x -> x.base(9, 0), NONE);
        }
        // Lamp 0 is in no quiet row; 1 and 2 do the same, 3 does nothing.
        Run run = Run.of("states 5;lamp 0;lamp 0;lamp 0;lamp 0 own 0;wire 1 2;");
        int[][] due = {{0, 1, 4, 0}, {0, 0, 0, 1}};
        for (int i = 0; i < 8; i++) {
            int k = i / 4;
            int lamp = i % 4;
            run.due("base(" + k + ", " + lamp + ")", x -> x.base(k, lamp), due[k][lamp]);
        }
        run.due("base(2, 0)", x -> x.base(2, 0), NONE);
        Run fewer = Nets.still(3, 2).then(x -> x.base(0, 0), x -> x.own(0, 1));
        fewer.due("lamp 0 can't be chosen any more", x -> x.base(0, 0), 0);
        fewer.due("lamp 1 can", x -> x.base(0, 1), 1);
        fewer.due("no second one", x -> x.base(1, 1), NONE);
    }

    // ---- plans

    static void promise25From0ToMToTheTenth() {
        for (int m : Nets.STATES) {
            for (int n = 0; n <= 10; n++) {
                Nets.apart(m, n).due("plans of " + n + " apart", LampPresses::plans, 1);
                Nets.still(m, n).due("plans of " + n + " that do nothing", LampPresses::plans, Nets.power(m, n));
                Nets.lost(m, n).due("no plan of " + n, LampPresses::plans, n == 0 ? 1 : 0);
            }
        }
    }

    static void promise26NoSuchLamp() {
        noSuchLamp("plan", LampPresses::plan);
    }

    static void promise26ThereIsNone() {
        Nets.lost(3, 10).due("the first lamp", x -> x.plan(0), -2);
        Nets.lost(3, 10).due("the last lamp", x -> x.plan(9), -2);
        Run one = Run.of("states 5;" + Nets.lamps(9) + "lamp 0 own 0 goal 1;");
        one.due("one lamp alone can't", x -> x.plan(0), -2);
        one.then(x -> x.own(9, 1)).due("now it can", x -> x.plan(9), 1);
    }

    static void promise26From0ToMLess1() {
        for (int m : Nets.STATES) {
            for (int i = 0; i < m * m; i++) {
                int shows = i / m;
                int goal = i % m;
                Run run = Run.of("states " + m + ";lamp " + shows + " goal " + goal + ";");
                run.due("plan(0)", x -> x.plan(0), (goal - shows + m) % m);
            }
        }
        Run.of("states 5;" + "lamp 0 own 0;".repeat(9) + "lamp 1;").due("not bound by 60000", x -> x.plan(9), 4);
    }

    private static void thereIsNone(String name, Asked asked) {
        Run[] lost = {Nets.lost(3, 1), Nets.lost(3, 10), Nets.lost(5, 6), Nets.lost(5, 7), Nets.lost(5, 10)};
        for (Run run : lost) {
            run.due(name + "(NONE): -2 ahead of -3", x -> asked.answer(x, NONE), -2);
            run.due(name + "(0)", x -> asked.answer(x, 0), -2);
        }
        Nets.still(5, 7).due(name + " of 78125", x -> asked.answer(x, NONE), -3);
        Nets.still(5, 7).then(x -> x.goal(6, 1)).due(name + " of none of them", x -> asked.answer(x, NONE), -2);
    }

    private static void moreThan60000(String name, Asked asked) {
        Run[] told = {Nets.still(2, 10), Nets.still(3, 9), Nets.still(3, 10), Nets.still(5, 5), Nets.still(5, 6)};
        for (Run run : told) {
            run.due(name + "(NONE) is told", x -> asked.answer(x, NONE), 0);
            run.due(name + "(0) is told", x -> asked.answer(x, 0), 0);
        }
        Run[] untold = {Nets.still(5, 7), Nets.still(5, 8), Nets.still(5, 10)};
        for (Run run : untold) {
            run.due(name + "(NONE) is not told", x -> asked.answer(x, NONE), -3);
            run.due(name + "(0) is not told", x -> asked.answer(x, 0), -3);
            run.due(name + "(6) is not told", x -> asked.answer(x, 6), -3);
        }
        Run six = Nets.still(5, 7).then(x -> x.own(3, 1), x -> x.goal(3, 2));
        six.due("15625 of seven lamps", x -> asked.answer(x, 3), 2);
        six.then(x -> x.own(3, 0)).due("none", x -> asked.answer(x, 3), -2);
        six.then(LampPresses::undo, LampPresses::undo).due("78125 again", x -> asked.answer(x, 3), -3);
        Nets.laid(5, 3, 7).due("15625 of seven that do the same", x -> asked.answer(x, NONE), 0);
        Nets.laid(5, 3, 8).due("78125 of eight", x -> asked.answer(x, NONE), -3);
        Nets.still(3, 10).due("how many PLANS", LampPresses::plans, 59049);
        Nets.still(5, 7).due("how many PLANS", LampPresses::plans, 78125);
    }

    static void promise27NoSuchLamp() {
        noSuchLamp("fewest", LampPresses::fewest, NONE);
    }

    static void promise27LampNone() {
        Run run = Run.of("states 5;lamp 4;lamp 3;lamp 0;");
        run.due("how many presses", x -> x.fewest(NONE), 3);
        run.due("below NONE", x -> x.fewest(NONE - 1), NONE);
        run.due("lamp 0", x -> x.fewest(0), 1);
        Run.anew().due("of no lamps", x -> x.fewest(NONE), 0);
        Run.of("states 5;" + "lamp 1;".repeat(10)).due("the most", x -> x.fewest(NONE), 40);
    }

    static void promise27ThereIsNoPlan() {
        thereIsNone("fewest", LampPresses::fewest);
    }

    static void promise27MoreThan60000Plans() {
        moreThan60000("fewest", LampPresses::fewest);
    }

    static void promise27OfSeveralTheFirstRow() {
        for (int m : Nets.STATES) {
            for (int n = 2; n <= 6; n++) {
                Run run = Nets.laid(m, 3, n).then(x -> x.lift(m - 1));
                run.due("one press", x -> x.fewest(NONE), 1);
                for (int i = 0; i < n; i++) {
                    int lamp = i;
                    run.due("of the last lamp", x -> x.fewest(lamp), lamp == n - 1 ? 1 : 0);
                }
            }
        }
        // Of 125 plans 0003 is the first of those with three presses.
        Run three = Nets.laid(5, 3, 4).then(x -> x.lift(2));
        three.due("three", x -> x.fewest(NONE), 3);
        three.due("0003", x -> x.fewest(3), 3);
        // Two presses: 02, 11, 20.
        Run two = Nets.laid(3, 0, 2).then(x -> x.lift(1));
        two.due("two", x -> x.fewest(NONE), 2);
        two.due("02 is the first", x -> x.fewest(0) * 10 + x.fewest(1), 2);
        // Lamp 1 does four times what lamp 0 does: 01 and 40 do the same, as do 10 and 04.
        Run other = Run.of("states 5;lamp 1;lamp 4;wire 0 1 by 4;");
        other.due("one", x -> x.fewest(NONE), 1);
        other.due("01", x -> x.fewest(0) * 10 + x.fewest(1), 1);
        Run back = Run.of("states 5;lamp 4;lamp 1;wire 0 1 by 4;");
        back.due("10, though 04 comes ahead of it", x -> x.fewest(0) * 10 + x.fewest(1), 10);
    }

    static void promise28NoSuchLamp() {
        noSuchLamp("fixed", LampPresses::fixed);
    }

    static void promise28ThereIsNoPlan() {
        for (Run run : new Run[] {Nets.lost(3, 1), Nets.lost(3, 10), Nets.lost(5, 10)}) {
            run.due("-2 ahead of -3", x -> x.fixed(0), -2);
        }
        Run.of("states 3;lamp 1 own 0;lamp 1;").due("also for one that would be", x -> x.fixed(1), -2);
    }

    static void promise28ItIsNotTheSame() {
        for (int m : Nets.STATES) {
            Nets.apart(m, 10).due("one plan", x -> x.fixed(9), 0);
            Nets.still(m, 1).due("own 0", x -> x.fixed(0), -3);
            Run two = Nets.laid(m, 3, 2).then(x -> x.lamp(m - 1));
            two.due("the first of two that do the same", x -> x.fixed(0), -3);
            two.due("the second", x -> x.fixed(1), -3);
            two.due("one apart", x -> x.fixed(2), 1);
        }
        Run many = Run.of("states 5;" + "lamp 0 own 0;".repeat(9) + "lamp 1;");
        many.due("not bound by 60000: it is", x -> x.fixed(9), 4);
        many.due("not bound by 60000: it is not", x -> x.fixed(0), -3);
    }

    // ---- alone

    static void promise29NoSuchLamp() {
        noSuchLamp("alone", LampPresses::alone);
    }

    static void promise29ItCant() {
        for (int m : Nets.STATES) {
            Nets.still(m, 10).due("own 0", x -> x.alone(9), -2);
            Nets.laid(m, 3, 2).due("two that go together", x -> x.alone(0), -2);
            Nets.apart(m, 10).due("apart", x -> x.alone(9), 1);
            Nets.lost(m, 2).due("own 0", x -> x.alone(1), -2);
        }
        Nets.lost(3, 2).then(x -> x.own(1, 1)).due("it is not bound by plans", x -> x.alone(1), 1);
        Nets.still(5, 9).then(x -> x.lamp(0)).due("nor by 60000", x -> x.alone(9), 1);
    }

    static void promise29OneMoreGoesRoundAtM() {
        for (int m : Nets.STATES) {
            for (int i = 0; i < m; i++) {
                int shows = i;
                for (int step = 1; step < m; step++) {
                    int presses = 1;
                    while (presses * step % m != 1) {
                        presses++;
                    }
                    Run.of("states " + m + ";lamp " + shows + " own " + step + " goal 1;lamp 1;")
                        .due("alone(0) of own " + step, x -> x.alone(0), presses);
                }
            }
        }
    }

    static void promise29TheFirstSuchRow() {
        // Own 0 and a wire of 2: lamp 0 is stepped by lamp 1 alone; lamp 2 does nothing.
        Run run = Run.of("states 3;lamp 0 own 0;lamp 0 own 0;lamp 0 own 0;wire 0 1 by 2;");
        run.due("twice lamp 1", x -> x.alone(0), 2);
        run.due("twice lamp 0", x -> x.alone(1), 2);
        // Lamp 0 and 1 do nothing but to lamp 2, 1 once and 0 twice: 010 comes ahead of 200.
        Run two = Run.of("states 3;lamp 0 own 0;lamp 0 own 0;lamp 0;wire 0 2 by 2;wire 1 2;");
        two.due("once lamp 1", x -> x.alone(2), 1);
        Run other = Run.of("states 3;lamp 0 own 0;lamp 0 own 0;lamp 0;wire 0 2;wire 1 2 by 2;");
        other.due("twice lamp 1, though lamp 0 once does it", x -> x.alone(2), 2);
    }

    static void promise30FromNoneToAllTen() {
        Run.anew().due("no lamps", LampPresses::alones, 0);
        for (int m : Nets.STATES) {
            Nets.still(m, 10).due("none", LampPresses::alones, 0);
            Nets.apart(m, 10).due("ten", LampPresses::alones, 1023);
            Nets.still(m, 10).then(x -> x.own(0, 1)).due("the first", LampPresses::alones, 1);
            Nets.still(m, 10).then(x -> x.own(9, 1)).due("the last", LampPresses::alones, 512);
        }
    }

    // ---- off, parts, distance, same

    static void promise31FromNoneToAllTen() {
        Run.anew().due("no lamps", LampPresses::off, 0);
        for (int m : Nets.STATES) {
            Nets.apart(m, 10).due("none", LampPresses::off, 0);
            Nets.apart(m, 10).then(x -> x.show(9, 1)).due("the last", LampPresses::off, 1);
            Nets.apart(m, 10).then(x -> x.goal(0, m - 1)).due("the first", LampPresses::off, 1);
            Nets.apart(m, 10).then(x -> x.lift(1)).due("all", LampPresses::off, 10);
        }
    }

    static void promise32FromNoneToTen() {
        for (int i = 0; i <= 10; i++) {
            int n = i;
            Nets.apart(3, n).due("parts of " + n + " apart", LampPresses::parts, n);
            if (n > 0) {
                Nets.laid(3, 0, n).due("a row of " + n, LampPresses::parts, 1);
                Nets.laid(3, 4, n).due("a star of " + n, LampPresses::parts, 1);
                Nets.laid(3, 3, n).due("all to all of " + n, LampPresses::parts, 1);
            }
            if (n > 1) {
                Nets.apart(3, n).then(x -> x.wire(0, n - 1, 1)).due("one wire", LampPresses::parts, n - 1);
            }
        }
        Nets.laid(2, 0, 10).then(x -> x.wire(4, 5, 0)).due("two halves", LampPresses::parts, 2);
        Nets.still(2, 2).then(x -> x.wire(0, 1, 1)).due("whatever own is", LampPresses::parts, 1);
    }

    static void promise33NoSuchLamps() {
        noSuchLamp("distance, the other", (x, lamp) -> x.distance(0, lamp));
        noSuchLamp("distance, the first", (x, lamp) -> x.distance(lamp, 0));
        noSuchLamp("distance of itself", (x, lamp) -> x.distance(lamp, lamp));
    }

    static void promise33From0To9() {
        Run row = Nets.laid(3, 0, 10);
        for (int i = 0; i < 10; i++) {
            int lamp = i;
            row.due("distance(0, " + i + ")", x -> x.distance(0, lamp), i);
            row.due("distance(9, " + i + ")", x -> x.distance(9, lamp), 9 - i);
            row.due("both are one", x -> x.distance(lamp, lamp), 0);
        }
        Nets.laid(3, 1, 10).due("half a ring", x -> x.distance(2, 7), 5);
        Nets.laid(3, 1, 10).due("a ring, the short way", x -> x.distance(1, 9), 2);
    }

    static void promise33ThereIsNoSuchWay() {
        Nets.apart(3, 2).due("two apart", x -> x.distance(0, 1), -2);
        Nets.apart(3, 10).due("ten apart", x -> x.distance(9, 0), -2);
        Run cut = Nets.laid(3, 0, 10).then(x -> x.wire(8, 9, 0));
        cut.due("the last is apart", x -> x.distance(0, 9), -2);
        cut.due("and back", x -> x.distance(9, 8), -2);
        cut.due("the one ahead is not", x -> x.distance(0, 8), 8);
        cut.due("itself", x -> x.distance(9, 9), 0);
    }

    static void promise34NoSuchLamps() {
        noSuchLamp("same, the other", (x, lamp) -> x.same(0, lamp));
        noSuchLamp("same, the first", (x, lamp) -> x.same(lamp, 0));
        noSuchLamp("same of itself", (x, lamp) -> x.same(lamp, lamp));
    }

    static void promise34DoesTheSame() {
        for (int m : Nets.STATES) {
            Nets.laid(m, 3, 10).due("all of ten", x -> x.same(0, 9), 1);
            Nets.apart(m, 10).due("apart", x -> x.same(0, 9), 0);
            Nets.apart(m, 10).due("itself", x -> x.same(9, 9), 1);
            Nets.still(m, 10).due("both do nothing", x -> x.same(9, 0), 1);
            Nets.laid(m, 3, 2).then(x -> x.own(0, 0)).due("own alone is another one", x -> x.same(0, 1), 0);
            Nets.laid(m, 3, 3).then(x -> x.wire(0, 2, 0)).due("one wire is another one", x -> x.same(0, 1), 0);
        }
        Run.of("states 3;lamp 0;lamp 0;wire 0 1 by 2;").due("twice as much is not the same", x -> x.same(0, 1), 0);
        Run.of("states 3;lamp 0 own 2;lamp 1 own 2 goal 1;wire 0 1 by 2;")
            .due("whatever they show", x -> x.same(0, 1), 1);
    }

    // ---- part, only

    private static void sets(String name, Asked asked) {
        for (int n = 0; n <= 10; n++) {
            Run run = Nets.apart(3, n);
            int first = 1 << n;
            for (int set : new int[] {first, first + 1, 2 * first, 1024, 2048, 1 << 20, 1 << 30, Nets.GREATEST}) {
                run.due(name + "(" + set + ") of " + n, x -> asked.answer(x, set), NONE);
            }
            for (int set : new int[] {-1, -2, -1024, Nets.LEAST, Nets.LEAST + 1}) {
                run.due(name + "(" + set + ") of " + n, x -> asked.answer(x, set), NONE);
            }
            Check.due(name + " of all", run.ask(x -> asked.answer(x, first - 1)) > 0, true);
            Check.due(name + " of none", run.ask(x -> asked.answer(x, 0)) > 0, true);
        }
        Nets.apart(3, 3).leaves(name + "(8)", x -> asked.answer(x, 8));
        Nets.apart(3, 3).leaves(name + "(5)", x -> asked.answer(x, 5));
        Nets.lost(5, 7).due(name + " of a lamp that there is not, without a plan", x -> asked.answer(x, 128), NONE);
    }

    static void promise35BelowZeroAndLampsThatThereAreNot() {
        sets("part", LampPresses::part);
    }

    static void promise35FromNoneToAll() {
        for (int m : Nets.STATES) {
            for (int n = 0; n <= 10; n++) {
                int all = (1 << n) - 1;
                Nets.apart(m, n).due("of all of " + n, x -> x.part(all), 1);
                Nets.apart(m, n).due("of none of " + n, x -> x.part(0), Nets.power(m, n));
                Nets.still(m, n).due("own 0, of all", x -> x.part(all), Nets.power(m, n));
                Nets.lost(m, n).due("own 0, of all, lost", x -> x.part(all), n == 0 ? 1 : 0);
                Nets.lost(m, n).due("own 0, of none, lost", x -> x.part(0), Nets.power(m, n));
            }
            Nets.apart(m, 10).due("of the last", x -> x.part(512), Nets.power(m, 9));
        }
    }

    static void promise36BelowZeroAndLampsThatThereAreNot() {
        sets("only", LampPresses::only);
    }

    static void promise36FromNoneToAll() {
        for (int m : Nets.STATES) {
            for (int n = 0; n <= 10; n++) {
                int all = (1 << n) - 1;
                Nets.apart(m, n).due("of all of " + n, x -> x.only(all), 1);
                Nets.apart(m, n).due("of none of " + n, x -> x.only(0), 1);
                Nets.still(m, n).due("own 0, of all", x -> x.only(all), Nets.power(m, n));
                Nets.still(m, n).due("own 0, of none", x -> x.only(0), 1);
                Nets.lost(m, n).due("own 0, of all, lost", x -> x.only(all), n == 0 ? 1 : 0);
                Nets.lost(m, n).due("own 0, of none, lost", x -> x.only(0), n == 0 ? 1 : 0);
            }
            Run last = Nets.apart(m, 10).then(x -> x.show(9, 1));
            last.due("by the last alone", x -> x.only(512), 1);
            last.due("by all but the last", x -> x.only(511), 0);
            Run pair = Nets.still(m, 2).then(x -> x.wire(0, 1, 1), x -> x.goal(0, 1));
            pair.due("by the one that is wired to it", x -> x.only(2), 1);
            pair.due("not by itself", x -> x.only(1), 0);
            Run first = Nets.apart(m, 10).then(x -> x.show(0, 1));
            first.due("by the first alone", x -> x.only(1), 1);
            first.due("by all but the first", x -> x.only(1022), 0);
        }
    }

    // ---- sparest

    static void promise37NoSuchLamp() {
        noSuchLamp("sparest", LampPresses::sparest, NONE);
    }

    static void promise37LampNone() {
        Run run = Run.of("states 5;lamp 4;lamp 3;lamp 0;");
        run.due("how many lamps", x -> x.sparest(NONE), 2);
        run.due("below NONE", x -> x.sparest(NONE - 1), NONE);
        run.due("lamp 1", x -> x.sparest(1), 2);
        run.due("lamp 2", x -> x.sparest(2), 0);
        Run.anew().due("of no lamps", x -> x.sparest(NONE), 0);
        Run.of("states 5;" + "lamp 1;".repeat(10)).due("the most", x -> x.sparest(NONE), 10);
    }

    static void promise37ThereIsNoPlan() {
        thereIsNone("sparest", LampPresses::sparest);
    }

    static void promise37MoreThan60000Plans() {
        moreThan60000("sparest", LampPresses::sparest);
    }

    static void promise37TheFirstOfThese() {
        Run back = Run.of("states 5;lamp 4;lamp 1;wire 0 1 by 4;").then(x -> x.own(1, 1));
        back.due("04 comes ahead of 10", x -> x.sparest(0) * 10 + x.sparest(1), 4);
        back.due("the fewest is 10", x -> x.fewest(0) * 10 + x.fewest(1), 10);
        for (int m : Nets.STATES) {
            Run run = Nets.laid(m, 3, 4).then(x -> x.lift(1));
            run.due("one lamp", x -> x.sparest(NONE), 1);
            run.due("the last", x -> x.sparest(3), m - 1);
        }
    }

    // ---- greedy

    static void promise38NoneForOthers() {
        for (int what : Nets.outOf(2)) {
            Nets.apart(3, 2).due("greedy(" + what + ")", x -> x.greedy(what), NONE);
            Run.anew().due("greedy(" + what + ") of none", x -> x.greedy(what), NONE);
        }
        Run.of("lamp 1;lamp 1;wire 0 1;").leaves("greedy(0)", x -> x.greedy(0));
        Run.of("lamp 1;lamp 1;wire 0 1;").leaves("greedy(1)", x -> x.greedy(1));
    }

    private static void greedy(String text, int presses, int left) {
        Run.of(text).due("presses of " + text, x -> x.greedy(0), presses);
        Run.of(text).due("left of " + text, x -> x.greedy(1), left);
    }

    static void promise38FromNoPressToTen() {
        greedy("", 0, 0);
        greedy(Nets.lamps(10), 0, 0);
        greedy("lamp 1;".repeat(10), 10, 0);
        greedy("states 5;" + "lamp 4;".repeat(10), 10, 0);
        greedy("states 5;" + "lamp 3;".repeat(10), 0, 10);
        greedy("lamp 1 own 0;".repeat(10), 0, 10);
    }

    static void promise38AsLongAsTheseBecomeFewer() {
        // A press that leaves as many is not made, though a second one would help.
        greedy("states 3;lamp 1;", 0, 1);
        greedy("states 3;lamp 2;lamp 1;", 1, 1);
        greedy("lamp 1;lamp 0;wire 0 1;", 0, 1);
        greedy("lamp 1;lamp 1;lamp 0;wire 0 1;wire 0 2;wire 1 2;", 1, 1);
        greedy("lamp 1;lamp 1;lamp 0;wire 0 1;wire 0 2;", 1, 0);
    }

    static void promise38OfSeveralTheFirst() {
        // 0, 1 and 2 leave two lamps each; behind 0 lamp 3 puts both out, behind 2 no press leaves fewer.
        greedy("lamp 1;lamp 0;lamp 1 own 0;lamp 1;wire 0 1;wire 0 2;wire 1 3;", 2, 0);
        // Behind 0 no press leaves fewer; behind 3 lamp 1 would put both out.
        greedy("lamp 1 own 0;lamp 1;lamp 0;lamp 1;wire 0 3;wire 1 2;wire 2 3;", 1, 2);
    }

    // ---- hardest, after, cycle, ways, hub

    static void promise39ThereIsNoneThatCanBe() {
        Run.anew().due("no lamps", LampPresses::hardest, -2);
        Nets.still(3, 10).due("none of ten", LampPresses::hardest, -2);
        Nets.still(3, 10).then(x -> x.own(9, 1)).due("the last alone", LampPresses::hardest, 9);
    }

    static void promise39OfSeveralTheFirst() {
        Nets.apart(3, 10).due("all alike", LampPresses::hardest, 0);
        Nets.apart(3, 10).then(x -> x.own(9, 2)).due("the last is harder", LampPresses::hardest, 9);
        Nets.apart(3, 10).then(x -> x.own(9, 2), x -> x.own(4, 2)).due("two are", LampPresses::hardest, 4);
        Nets.apart(3, 10).then(x -> x.own(0, 0), x -> x.own(1, 2)).due("one can't", LampPresses::hardest, 1);
    }

    static void promise40NoSuchLamps() {
        noSuchLamp("after, the lamp", (x, lamp) -> x.after(0, lamp));
        noSuchLamp("after, the pressed one", (x, lamp) -> x.after(lamp, 0));
        noSuchLamp("after, itself", (x, lamp) -> x.after(lamp, lamp));
    }

    static void promise40ItGoesRoundAtM() {
        for (int m : Nets.STATES) {
            for (int i = 0; i < m * m; i++) {
                int shows = i / m;
                int step = i % m;
                String wire = step > 0 ? "wire 0 1 by " + step + ";" : "";
                Run run = Run.of("states " + m + ";lamp " + shows + " own " + step + ";lamp " + shows + ";" + wire);
                run.due("itself", x -> x.after(0, 0), (shows + step) % m);
                run.due("another one", x -> x.after(0, 1), (shows + step) % m);
                run.due("the other way", x -> x.after(1, 0), (shows + step) % m);
            }
        }
    }

    static void promise41NoSuchLamp() {
        noSuchLamp("cycle", LampPresses::cycle);
    }

    static void promise41OneAtLeast() {
        for (int m : Nets.STATES) {
            Nets.still(m, 10).due("a press that does nothing", x -> x.cycle(9), 1);
            for (int i = 1; i < m; i++) {
                int step = i;
                Nets.still(m, 10).then(x -> x.own(9, step)).due("own " + i, x -> x.cycle(9), m);
                Nets.still(m, 10).then(x -> x.wire(0, 9, step)).due("a wire of " + i, x -> x.cycle(9), m);
                Nets.still(m, 10).then(x -> x.own(9, step), x -> x.wire(0, 9, m - step))
                    .due("both are M together", x -> x.cycle(9), m);
            }
        }
    }

    static void promise42From1ToMToTheTenth() {
        for (int m : Nets.STATES) {
            for (int n = 0; n <= 10; n++) {
                Nets.still(m, n).due("ways of " + n + " that do nothing", LampPresses::ways, 1);
                Nets.apart(m, n).due("ways of " + n + " apart", LampPresses::ways, Nets.power(m, n));
            }
        }
    }

    static void promise43ThereAreNoLamps() {
        Run.anew().due("a new object", LampPresses::hub, -2);
        Nets.apart(3, 1).then(x -> Run.yes(x.drop(0))).due("the only one has gone", LampPresses::hub, -2);
        Nets.apart(3, 1).due("one lamp", LampPresses::hub, 0);
        Nets.apart(3, 10).due("no wires", LampPresses::hub, 0);
    }

    static void promise43OfSeveralTheFirst() {
        Nets.apart(3, 10).then(x -> x.wire(8, 9, 1)).due("one wire", LampPresses::hub, 8);
        Nets.apart(3, 10).then(x -> x.wire(8, 9, 1), x -> x.wire(7, 9, 1)).due("two", LampPresses::hub, 9);
        Nets.laid(3, 3, 10).due("all alike", LampPresses::hub, 0);
        Nets.laid(3, 3, 10).then(x -> x.wire(0, 1, 0)).due("the first two have fewer", LampPresses::hub, 2);
        Run four = Nets.apart(5, 4);
        four.then(x -> x.wire(0, 1, 4), x -> x.wire(2, 3, 1)).due("wires, not weights", LampPresses::hub, 0);
        four.then(x -> x.wire(0, 1, 1), x -> x.wire(2, 3, 4)).due("wires, not weights", LampPresses::hub, 0);
    }

    // ---- book

    static void promise44NoSuchEntry() {
        for (int i : new int[] {0, 1, 2, 19, 20, 21, 40}) {
            int presses = i;
            Run run = Nets.apart(3, 1).times(presses, x -> x.press(0, 1 + x.count(5) % 9));
            int kept = Math.min(presses, 20);
            run.due("entries", x -> x.count(7), kept);
            for (int k : Nets.outOf(kept)) {
                run.due("lamp of entry " + k + " of " + kept, x -> x.book(k, 0), NONE);
                run.due("times of entry " + k + " of " + kept, x -> x.book(k, 1), NONE);
            }
            if (kept > 0) {
                run.due("the latest", x -> x.book(0, 0), 0);
                run.due("the oldest", x -> x.book(kept - 1, 0), 0);
            }
        }
    }

    static void promise44NoneForOthers() {
        Run run = Nets.apart(3, 2).then(x -> x.press(1, 4));
        run.due("0, the lamp", x -> x.book(0, 0), 1);
        run.due("1, how often", x -> x.book(0, 1), 4);
        for (int what : Nets.outOf(2)) {
            run.due("book(0, " + what + ")", x -> x.book(0, what), NONE);
        }
    }

    static void promise44TheLatestTwenty() {
        for (int i = 18; i <= 42; i++) {
            int presses = i;
            Run run = Nets.apart(2, 10);
            for (int j = 0; j < presses; j++) {
                int times = 1 + j % 9;
                int lamp = j % 10;
                run = run.then(x -> x.press(lamp, times));
            }
            for (int j = 0; j < Math.min(presses, 20); j++) {
                int k = j;
                int pressed = presses - 1 - k;
                run.due("lamp of entry " + k + " of " + presses, x -> x.book(k, 0), pressed % 10);
                run.due("times of entry " + k + " of " + presses, x -> x.book(k, 1), 1 + pressed % 9);
            }
        }
    }

    static void promise44ByPressOrSolveAlone() {
        Run run = Run.of("states 5;lamp 4;lamp 0;").then(x -> x.show(0, 3), x -> x.lift(1), x -> x.goal(1, 3),
            LampPresses::aim, LampPresses::mirror, x -> x.scale(2));
        run.due("no entry", x -> x.count(7), 0);
        run.then(x -> x.lift(2), LampPresses::solve).due("two by solve", x -> x.count(7), 2);
        run.then(x -> x.press(0, 1)).due("one by press", x -> x.count(7), 1);
        run.then(x -> x.press(0, 10)).due("none by a refused press", x -> x.count(7), 0);
        run.then(LampPresses::solve).due("none by a refused solve", x -> x.count(7), 0);
        run.then(x -> x.greedy(0)).due("none by greedy", x -> x.count(7), 0);
    }
}
