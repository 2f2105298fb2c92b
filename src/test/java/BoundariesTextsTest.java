/** Boundary cases of promises 54 to 56: a method for each sentence that names one. */
final class BoundariesTextsTest {
    private static final int NONE = LampPresses.NONE;

    private BoundariesTextsTest() {
    }

    public static void main(String[] args) {
        Check.sentences(BoundariesTextsTest.class, 54, 56);
        Check.end();
    }

    private interface Asked {
        int answer(LampPresses x, int i);
    }

    /** Each byte, how many there are, and what lies on either side. */
    private static void bytes(String name, Asked asked, Run run, String text) {
        int length = text.length();
        run.due(name + "(NONE)", x -> asked.answer(x, NONE), length);
        for (int i : new int[] {0, 1, length / 2, length - 2, length - 1}) {
            run.due(name + "(" + i + ")", x -> asked.answer(x, i), text.charAt(i));
        }
        for (int i : new int[] {length, length + 1, 500, 900, 1000, Nets.GREATEST}) {
            if (i >= length) {
                run.due(name + "(" + i + "): there are not so many", x -> asked.answer(x, i), -2);
            }
        }
        for (int i : new int[] {NONE - 1, NONE - 2, -100, Nets.LEAST}) {
            run.due(name + "(" + i + ")", x -> asked.answer(x, i), NONE);
        }
    }

    /** Ten lamps and all wires, each with all that can be told of it. */
    private static Run longest() {
        Run run = Run.of("states 5;" + "lamp 4 own 3 goal 2;".repeat(10));
        for (int i = 0; i < 10; i++) {
            for (int j = i + 1; j < 10; j++) {
                int lamp = i;
                int other = j;
                run = run.then(x -> x.wire(other, lamp, 4));
            }
        }
        return run;
    }

    private static String longestText() {
        StringBuilder text = new StringBuilder("states 5;" + "lamp 4 own 3 goal 2;".repeat(10));
        for (int i = 0; i < 10; i++) {
            for (int j = i + 1; j < 10; j++) {
                text.append("wire ").append(i).append(' ').append(j).append(" by 4;");
            }
        }
        return text.toString();
    }

    // ---- spell

    static void promise54BelowNoneAndNotSoMany() {
        bytes("spell", LampPresses::spell, Run.anew(), "states 2;");
        bytes("spell", LampPresses::spell, Run.of("states 3;lamp 2 own 0;"), "states 3;lamp 2 own 0;");
        bytes("spell", LampPresses::spell, Nets.still(5, 10), "states 5;" + "lamp 0 own 0;".repeat(10));
        Nets.apart(3, 2).leaves("spell(-2)", x -> x.spell(-2));
        Nets.apart(3, 2).leaves("spell(0)", x -> x.spell(0));
    }

    static void promise54TheLongest() {
        Check.due("how long it is", longestText().length(), 839);
        bytes("spell", LampPresses::spell, longest(), longestText());
        longest().dueSpelled("all of it", longestText());
    }

    static void promise54OwnAndGoalToldIfTheyAreNot1And0() {
        for (int m : Nets.STATES) {
            for (int i = 0; i < m * m * m; i++) {
                int shows = i / m / m;
                int own = i / m % m;
                int goal = i % m;
                Run run = Run.of("states " + m + ";lamp " + shows + " own " + own + " goal " + goal + ";");
                run.dueSpelled("shows " + shows + ", own " + own + ", goal " + goal, "states " + m + ";lamp " + shows
                    + (own == 1 ? "" : " own " + own) + (goal == 0 ? "" : " goal " + goal) + ";");
            }
        }
    }

    static void promise54ByToldIfItIsNot1() {
        for (int m : Nets.STATES) {
            for (int i = 0; i < m; i++) {
                int weight = i;
                String wire = i == 0 ? "" : i == 1 ? "wire 0 1;" : "wire 0 1 by " + i + ";";
                Nets.apart(m, 2).then(x -> x.wire(1, 0, weight))
                    .dueSpelled("weight " + i, "states " + m + ";" + Nets.lamps(2) + wire);
            }
        }
    }

    static void promise54ByTheFirstThenTheSecondLamp() {
        Run run = Nets.apart(2, 10).then(x -> x.wire(9, 8, 1), x -> x.wire(9, 0, 1), x -> x.wire(8, 1, 1),
            x -> x.wire(2, 1, 1), x -> x.wire(1, 0, 1));
        run.dueSpelled("spell", "states 2;" + Nets.lamps(10) + "wire 0 1;wire 0 9;wire 1 2;wire 1 8;wire 8 9;");
    }

    static void promise54ItIsAText() {
        for (Run run : new Run[] {Run.anew(), Nets.still(3, 10), Nets.laid(5, 1, 10), Nets.laid(3, 4, 10),
            Run.of("states 5;lamp 4 own 0 goal 3;lamp 2;lamp 1 goal 1;wire 0 2 by 3;wire 1 2;")}) {
            String text = run.spelled();
            Run.of(text).dueSpelled("told and spelled again", text);
        }
    }

    static void promise54AnewBehindEachAct() {
        Run asked = Run.of("states 5;lamp 3;lamp 1;").then(x -> x.spell(0));
        asked.then(x -> x.show(0, 4)).dueSpelled("show", "states 5;lamp 4;lamp 1;");
        asked.then(x -> x.goal(0, 4)).dueSpelled("goal", "states 5;lamp 3 goal 4;lamp 1;");
        asked.then(x -> x.own(0, 4)).dueSpelled("own", "states 5;lamp 3 own 4;lamp 1;");
        asked.then(x -> x.press(1, 1)).dueSpelled("press", "states 5;lamp 3;lamp 2;");
        asked.then(x -> x.lift(1)).dueSpelled("lift", "states 5;lamp 4;lamp 2;");
        asked.then(LampPresses::solve).dueSpelled("solve", "states 5;lamp 0;lamp 0;");
        asked.then(LampPresses::aim).dueSpelled("aim", "states 5;lamp 3 goal 3;lamp 1 goal 1;");
        asked.then(x -> x.lamp(0)).dueSpelled("lamp", "states 5;lamp 3;lamp 1;lamp 0;");
        asked.then(x -> Run.yes(x.drop(0))).dueSpelled("drop", "states 5;lamp 1;");
        asked.then(x -> x.wire(0, 1, 2)).dueSpelled("wire", "states 5;lamp 3;lamp 1;wire 0 1 by 2;");
        asked.then(x -> Run.yes(x.swap(0, 1))).dueSpelled("swap", "states 5;lamp 1;lamp 3;");
        asked.then(LampPresses::mirror).dueSpelled("mirror", "states 5;lamp 1;lamp 3;");
        asked.then(x -> x.scale(2)).dueSpelled("scale", "states 5;lamp 3 own 2;lamp 1 own 2;");
        asked.then(x -> x.lay(0, 1, 1)).dueSpelled("lay", "states 5;lamp 0;");
        asked.then(x -> x.lay(0, 1, 1), x -> x.spell(0), LampPresses::undo)
            .dueSpelled("undo", "states 5;lamp 3;lamp 1;");
        asked.told("").dueSpelled("text", "states 2;");
    }

    // ---- report

    static void promise55BelowNoneAndNotSoMany() {
        bytes("report", LampPresses::report, Run.anew(), "done 0;");
        bytes("report", LampPresses::report, Nets.lost(3, 1), "none;");
        bytes("report", LampPresses::report, Nets.still(5, 7), "many;");
        bytes("report", LampPresses::report, Run.of("states 5;lamp 0;lamp 2;"), "press 1 3;done 3;");
        Nets.lost(5, 10).due("NONE ahead of all else", x -> x.report(-2), NONE);
        Nets.lost(3, 2).leaves("report(-2)", x -> x.report(-2));
        Nets.lost(3, 2).leaves("report(0)", x -> x.report(0));
    }

    static void promise55TheLongest() {
        StringBuilder text = new StringBuilder();
        for (int i = 0; i < 10; i++) {
            text.append("press ").append(i).append(" 4;");
        }
        Run most = Run.of("states 5;" + "lamp 1;".repeat(10));
        bytes("report", LampPresses::report, most, text + "done 40;");
        most.dueReported("all of it", text + "done 40;");
    }

    static void promise55EachLampThatIsPressed() {
        Nets.apart(5, 10).dueReported("none is", "done 0;");
        Nets.apart(5, 10).then(x -> x.show(0, 1)).dueReported("the first", "press 0 4;done 4;");
        Nets.apart(5, 10).then(x -> x.show(9, 4)).dueReported("the last", "press 9 1;done 1;");
        Nets.apart(5, 10).then(x -> x.show(9, 4), x -> x.show(0, 2)).dueReported("both", "press 0 3;press 9 1;done 4;");
    }

    static void promise55NineAndTenPresses() {
        Run.of("states 5;lamp 1;lamp 1;lamp 4;").dueReported("nine", "press 0 4;press 1 4;press 2 1;done 9;");
        Run.of("states 5;lamp 1;lamp 1;lamp 3;").dueReported("ten", "press 0 4;press 1 4;press 2 2;done 10;");
        Run.of("states 5;lamp 1;lamp 1;lamp 2;").dueReported("eleven", "press 0 4;press 1 4;press 2 3;done 11;");
    }

    static void promise55PressesTogetherFrom0To40() {
        for (int presses = 0; presses <= 40; presses++) {
            StringBuilder text = new StringBuilder("states 5;");
            StringBuilder due = new StringBuilder();
            for (int lamp = 0; lamp < 10; lamp++) {
                int times = Math.max(0, Math.min(4, presses - 4 * lamp));
                text.append("lamp 0 goal ").append(times).append(';');
                due.append(times > 0 ? "press " + lamp + " " + times + ";" : "");
            }
            Run.of(text.toString()).dueReported(presses + " presses", due + "done " + presses + ";");
        }
    }

    static void promise55NoneWithoutAPlan() {
        for (Run run : new Run[] {Nets.lost(2, 1), Nets.lost(3, 10), Nets.lost(5, 6)}) {
            run.dueReported("none", "none;");
        }
        Nets.lost(5, 7).dueReported("none ahead of many", "none;");
        Nets.lost(5, 10).dueReported("none ahead of many", "none;");
    }

    static void promise55ManyAbove60000() {
        Nets.still(3, 10).dueReported("59049", "done 0;");
        Nets.still(5, 6).dueReported("15625", "done 0;");
        Nets.still(5, 7).dueReported("78125", "many;");
        Nets.still(5, 10).dueReported("9765625", "many;");
        Nets.still(5, 7).then(x -> x.report(0), x -> x.own(6, 2), x -> x.goal(6, 1))
            .dueReported("one of seven can be pressed", "press 6 3;done 3;");
        Nets.still(5, 6).then(x -> x.report(0), x -> x.lamp(0), x -> x.own(6, 0)).dueReported("a seventh", "many;");
    }

    static void promise55TheFewestNotTheFirst() {
        Run run = Run.of("states 5;lamp 4;lamp 1;wire 0 1 by 4;");
        run.due("the first plan", x -> x.plan(0) * 10 + x.plan(1), 4);
        run.dueReported("the fewest", "press 0 1;done 1;");
    }

    // ---- count

    static void promise56NoneForOthers() {
        for (int what : Nets.outOf(8)) {
            Run.anew().due("count(" + what + ")", x -> x.count(what), NONE);
            Nets.apart(3, 3).due("count(" + what + ")", x -> x.count(what), NONE);
        }
        for (int i = 0; i < 8; i++) {
            int what = i;
            Check.due("count(" + i + ")", Nets.apart(3, 3).ask(x -> x.count(what)) != NONE, true);
        }
    }

    static void promise56EachFromTheLeastToTheMost() {
        for (int m : Nets.STATES) {
            Nets.apart(m, 0).due("M", x -> x.count(0), m);
        }
        for (int n = 0; n <= 10; n++) {
            Nets.apart(3, n).due("LAMPS", x -> x.count(1), n);
            Nets.lost(3, n).due("LAMPS that do not SHOW 0", x -> x.count(6), n);
            Nets.apart(3, n).due("LAMPS that do not SHOW 0", x -> x.count(6), 0);
            if (n > 0) {
                Nets.laid(3, 3, n).due("WIRES", x -> x.count(2), n * (n - 1) / 2);
            }
        }
        longest().due("all WIRES", x -> x.count(2), 45);
        for (int n = 0; n <= 14; n++) {
            Nets.apart(3, 1).times(n, x -> x.press(0, 9)).due("ACTS", x -> x.count(3), Math.min(n, 12));
            Nets.apart(3, 1).times(n, x -> x.press(0, 9)).due("PRESSED", x -> x.count(5), 9 * n);
        }
        for (int n : new int[] {0, 1, 19, 20, 21, 499, 500}) {
            Run.anew().put(" ".repeat(n)).due("bytes of the tape", x -> x.count(4), n);
        }
        for (int n = 18; n <= 22; n++) {
            Nets.apart(3, 1).times(n, x -> x.press(0, 1)).due("entries", x -> x.count(7), Math.min(n, 20));
        }
        Nets.apart(5, 1).times(450, x -> x.press(0, 9)).due("the most presses of one run", x -> x.count(5), 4050);
    }

    static void promise56LampsThatDoNotShow0WhateverTheirGoal() {
        Run run = Run.of("states 5;lamp 4 goal 4;lamp 0 goal 1;lamp 1;");
        run.due("count(6)", x -> x.count(6), 2);
        run.then(x -> x.press(0, 1)).due("round at M", x -> x.count(6), 1);
    }
}
