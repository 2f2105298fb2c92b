/** One method for each promise: ordinary calls, the edges that the document names, wrong numbers. */
final class PromisesTest {
    private static final int NONE = LampPresses.NONE;
    private static final int[] WRONG = {-1, -2, 10, 31, 32, 1000, Integer.MAX_VALUE, Integer.MIN_VALUE};

    private PromisesTest() {
    }

    public static void main(String[] args) {
        told();
        acts();
        askedOfPlans();
        askedOfLamps();
        levels();
        were();
        texts();
        Check.end();
    }

    private static void told() {
        promise1();
        promise2();
        promise3();
        promise4Texts();
        promise4Faults();
        promise4Bounds();
        promise4Keeps();
    }

    private static void acts() {
        promise5();
        promise6();
        promise7();
        promise8();
        promise9();
        promise10();
        promise11();
        promise12();
        promise13();
        promise14();
        promise14Wrong();
        promise15();
        promise16();
        promise17();
        promise18();
        promise19();
        promise19Book();
    }

    private static void askedOfPlans() {
        promise22And23();
        promise24();
        promise25And26();
        promise27();
        promise27Untold();
        promise28();
        promise29And30();
        promise35();
        promise36();
        promise37();
        promise39();
        promise42();
    }

    private static void askedOfLamps() {
        promise20();
        promise21();
        promise31();
        promise32();
        promise33();
        promise34();
        promise38();
        promise40();
        promise41();
        promise43();
        promise44();
    }

    private static void levels() {
        promise45();
        promise46();
        promise47();
        promise48();
        levelsUntold();
    }

    private static void were() {
        promise49();
        promise50();
        promise51();
        promise52();
        promise53();
    }

    private static void texts() {
        promise54();
        promise55();
        promise56();
    }

    private static void due(String call, long got, long want) {
        Check.due(call, got, want);
    }

    private static void due(String call, boolean got, boolean want) {
        Check.due(call, got, want);
    }

    // ---- told

    private static void promise1() {
        LampPresses x = new LampPresses();
        due("1: NONE", NONE, -1);
        due("1: M", x.count(0), 2);
        for (int what = 1; what <= 7; what++) {
            due("1: count(" + what + ")", x.count(what), 0);
        }
        due("1: lamp(1) of the first object", x.lamp(1), 0);
        due("1: another object has no lamps", new LampPresses().count(1), 0);
    }

    private static void promise2() {
        LampPresses x = new LampPresses();
        for (int fed = 20; fed <= 500; fed += 20) {
            due("2: feed", x.feed(0x20202020, 0x20202020, 0x20202020, 0x20202020, 0x20202020), fed);
        }
        due("2: feed at 500", x.feed(0, 0, 0, 0, 0), NONE);
        due("2: nothing came", x.count(4), 500);
        due("2: back(19)", x.back(19), 481);
        due("2: feed at 481", x.feed(0, 0, 0, 0, 0), NONE);
        due("2: back(1)", x.back(1), 480);
        due("2: feed at 480", x.feed(0x6c616d70, 0x20313b6c, 0x616d7020, 0x303b6c61, 0x6d702031), 500);
        due("2: the order of bytes", x.text(), -4 - 500);
        x.feed(0x6c616d70, 0x20313b6c, 0x616d7020, 0x303b6c61, 0x6d702031);
        x.feed(0x3b202020, 0x20202020, 0x20202020, 0x20202020, 0x20202020);
        due("2: three lamps", x.text(), 3);
        Check.due("2: spell", Tapes.spelled(x), "states 2;lamp 1;lamp 0;lamp 1;");
        x.feed(0xff202020, 0, 0, 0, 0);
        due("2: a byte above 127", x.text(), -4);
    }

    private static void promise3() {
        LampPresses x = new LampPresses();
        due("3: back(0), empty", x.back(0), 0);
        due("3: back(1), empty", x.back(1), NONE);
        Tapes.put(x, "lamp 1;x");
        due("3: count(4)", x.count(4), 8);
        due("3: back(-1)", x.back(-1), NONE);
        due("3: back(least)", x.back(Integer.MIN_VALUE), NONE);
        due("3: back(9)", x.back(9), NONE);
        due("3: back(greatest)", x.back(Integer.MAX_VALUE), NONE);
        due("3: nothing went", x.count(4), 8);
        due("3: back(0)", x.back(0), 8);
        due("3: back(1)", x.back(1), 7);
        due("3: the last one went", x.text(), 1);
        Tapes.put(x, "lamp 1;");
        due("3: back(7)", x.back(7), 0);
    }

    private static void promise4Texts() {
        LampPresses x = new LampPresses();
        due("4: an empty tape", x.text(), 0);
        due("4: blanks alone", Tapes.told(x, "  \n "), 0);
        due("4: states alone", Tapes.told(x, "states 5;"), 0);
        due("4: M", x.count(0), 5);
        due("4: M is 2 without", Tapes.told(x, "lamp 1;"), 1);
        due("4: M", x.count(0), 2);
        due("4: line ends and blanks", Tapes.told(x,
            "\nstates\n3\n;\n lamp\n2  own 0\ngoal 1 ;lamp 1;lamp 0 goal 2;wire 1 0;wire\n2\n1\nby\n2\n;\n"), 3);
        Check.due("4: spell", Tapes.spelled(x),
            "states 3;lamp 2 own 0 goal 1;lamp 1;lamp 0 goal 2;wire 0 1;wire 1 2 by 2;");
        due("4: lamps behind wires", Tapes.told(x, "lamp 0;lamp 1;wire 0 1;lamp 1;wire 2 0;"), 3);
        due("4: weight", x.weight(0, 2), 1);
        due("4: ten lamps", Tapes.told(x, "lamp 0;".repeat(10) + "wire 9 0;"), 10);
        due("4: weight of the tenth", x.weight(0, 9), 1);
    }

    private static void fault(String text, int at) {
        LampPresses x = new LampPresses();
        due("4: text() of \"" + text + "\"", Tapes.told(x, text), -4 - at);
    }

    private static void promise4Faults() {
        fault("x", 0);
        fault("lam", 0);
        fault("lampx 0;", 0);
        fault("la", 0);
        fault("Lamp 0;", 0);
        fault("0", 0);
        fault(";", 0);
        fault("lamp 0;;", 7);
        fault("lamp 0;own 1;", 7);
        fault("\tlamp 0;", 0);
        fault("lamp\t0;", 4);
        fault("lamp 0;\r\n", 7);
        fault("lampA", 4);
        fault("lamp0;", 4);
        fault("lamp;", 4);
        fault("lamp own 0;", 5);
        fault("lamp 0own 1;", 6);
        fault("lamp 0 own1;", 10);
        fault("lamp 0 own 1goal 1;", 12);
        fault("lamp 01;", 6);
        fault("lamp 0 1;", 7);
        fault("lamp 0 goal 1 own 1;", 14);
        fault("lamp 0 own 1 own 1;", 13);
        fault("lamp 0 by 1;", 7);
        fault("lamp 0 lamp 1;", 7);
        fault("lamp 0 ow 1;", 7);
        fault("lamp 0;lamp 0;wire 01;", 20);
        fault("lamp 0;lamp 0;wire 0 1by 1;", 22);
        fault("lamp 0;lamp 0;wire 0 1 by1;", 25);
        fault("lamp 0;lamp 0;wire0 1;", 18);
        fault("lamp 0;lamp 0;wire 0 1 own 1;", 23);
        fault("lamp 0;lamp 0;wire 0;", 20);
        fault("lamp 0;lamp 0;wire 0 1 1;", 23);
        fault("lamp", 4);
        fault("lamp 0", 6);
        fault("lamp 0  \n", 9);
        fault("lamp 0;lamp 0;wire 0 1 by", 25);
        fault("states 3", 8);
        fault("states", 6);
    }

    private static void promise4Bounds() {
        fault("states 0;", 7);
        fault("states 1;", 7);
        fault("states 4;", 7);
        fault("states 6;", 7);
        fault("states 9;", 7);
        fault("states 22;", 8);
        fault("states 3 ;states 3;", 10);
        fault("lamp 0;states 2;", 7);
        fault("lamp 0 states 2;", 7);
        fault("lamp 2;", 5);
        fault("states 3;lamp 3;", 14);
        fault("states 5;lamp 5;", 14);
        fault("lamp 0 own 2;", 11);
        fault("states 3;lamp 0 own 2 goal 3;", 27);
        fault("wire 0 1;", 5);
        fault("lamp 0;wire 0 1;", 14);
        fault("lamp 0;wire 1 0;", 12);
        fault("lamp 0;wire 0 0;", 14);
        fault("lamp 0;lamp 0;wire 0 2;", 21);
        fault("lamp 0;lamp 0;wire 0 1;wire 0 1;", 30);
        fault("lamp 0;lamp 0;wire 0 1;wire 1 0;", 30);
        fault("lamp 0;lamp 0;wire 0 1 by 0;", 26);
        fault("lamp 0;lamp 0;wire 0 1 by 2;", 26);
        fault("states 5;lamp 4 own 4 goal 4;lamp 0;wire 0 1 by 5;", 48);
        fault("lamp 0;".repeat(10) + "lamp 0;", 70);
        fault("lamp 0;".repeat(10) + " lamp 7;", 71);
        fault("lamp 0;".repeat(10) + "wire 0 1", 78);
    }

    private static void promise4Keeps() {
        LampPresses x = Tapes.of("states 3;lamp 1;lamp 2;wire 0 1;");
        x.press(0, 2);
        due("4: a fault", Tapes.told(x, "states 5;lamp 1;lamp 7;"), -4 - 21);
        due("4: the tape is empty behind a fault", x.count(4), 0);
        due("4: M stays", x.count(0), 3);
        due("4: lamps stay", x.count(1), 2);
        due("4: wires stay", x.count(2), 1);
        due("4: acts stay", x.count(3), 1);
        due("4: presses stay", x.count(5), 2);
        due("4: the book stays", x.count(7), 1);
        due("4: what lamps show stays", x.of(0, 0), 0);
        due("4: undo behind a fault", x.undo(), 0);
        x.press(0, 2);
        due("4: a text", Tapes.told(x, "lamp 1;"), 1);
        due("4: the tape is empty", x.count(4), 0);
        due("4: no wires", x.count(2), 0);
        due("4: acts are forgotten", x.count(3), 0);
        due("4: undo", x.undo(), NONE);
        due("4: no presses", x.count(5), 0);
        due("4: no book", x.count(7), 0);
        due("4: no entry", x.book(0, 0), NONE);
    }

    // ---- acts

    private static void promise5() {
        LampPresses x = Tapes.of("states 3;");
        due("5: lamp(3)", x.lamp(3), NONE);
        due("5: lamp(-1)", x.lamp(-1), NONE);
        due("5: nothing happened", x.count(3), 0);
        due("5: lamp(2)", x.lamp(2), 0);
        due("5: lamp(0)", x.lamp(0), 1);
        due("5: shows", x.of(0, 0), 2);
        due("5: own", x.of(0, 1), 1);
        due("5: goal", x.of(0, 2), 0);
        due("5: no wires", x.count(2), 0);
        due("5: two acts", x.count(3), 2);
        for (int i = 2; i < 10; i++) {
            due("5: lamp(1)", x.lamp(1), i);
        }
        due("5: an 11th", x.lamp(1), NONE);
        due("5: ten", x.count(1), 10);
        x.wire(9, 0, 2);
        x.drop(9);
        due("5: a new tenth", x.lamp(1), 9);
        due("5: it has no wires", x.of(9, 3), 0);
    }

    private static void promise6() {
        LampPresses x = Tapes.of("states 5;lamp 1;lamp 2 own 3 goal 4;lamp 3;lamp 4 own 2;"
            + "wire 0 1 by 2;wire 1 2;wire 2 3 by 3;wire 0 3 by 4;");
        for (int wrong : WRONG) {
            due("6: drop(" + wrong + ")", x.drop(wrong), false);
        }
        due("6: drop(4)", x.drop(4), false);
        due("6: nothing happened", x.count(3), 0);
        due("6: drop(1)", x.drop(1), true);
        Check.due("6: spell", Tapes.spelled(x),
            "states 5;lamp 1;lamp 3;lamp 4 own 2;wire 0 2 by 4;wire 1 2 by 3;");
        due("6: undo", x.undo(), 0);
        Check.due("6: spell behind undo", Tapes.spelled(x), "states 5;lamp 1;lamp 2 own 3 goal 4;lamp 3;"
            + "lamp 4 own 2;wire 0 1 by 2;wire 0 3 by 4;wire 1 2;wire 2 3 by 3;");
        due("6: the last one", x.drop(3), true);
        due("6: the first one", x.drop(0), true);
        Check.due("6: spell", Tapes.spelled(x), "states 5;lamp 2 own 3 goal 4;lamp 3;wire 0 1;");
        due("6: drop(1)", x.drop(1), true);
        due("6: drop(0)", x.drop(0), true);
        due("6: drop(0) of none", x.drop(0), false);
        due("6: rank of none", x.rank(), 0);
    }

    private static void promise7() {
        LampPresses x = Tapes.of("states 3;lamp 0;lamp 0;lamp 0;wire 0 1 by 2;");
        for (int wrong : WRONG) {
            due("7: wire(0, " + wrong + ", 1)", x.wire(0, wrong, 1), NONE);
            due("7: wire(" + wrong + ", 0, 1)", x.wire(wrong, 0, 1), NONE);
            due("7: wire(0, 1, " + wrong + ")", x.wire(0, 1, wrong), NONE);
        }
        due("7: wire(0, 1, 3)", x.wire(0, 1, 3), NONE);
        due("7: both are one", x.wire(1, 1, 2), NONE);
        due("7: it is so", x.wire(1, 0, 2), NONE);
        due("7: it is so (none)", x.wire(0, 2, 0), NONE);
        due("7: nothing happened", x.count(3), 0);
        due("7: wire(1, 0, 1)", x.wire(1, 0, 1), 2);
        due("7: weight", x.weight(0, 1), 1);
        due("7: wire(0, 1, 0)", x.wire(0, 1, 0), 1);
        due("7: no wires", x.count(2), 0);
        due("7: wire(2, 1, 2)", x.wire(2, 1, 2), 0);
        due("7: both ways", x.weight(1, 2), 2);
        due("7: own stays", x.of(1, 1), 1);
        due("7: three acts", x.count(3), 3);
    }

    private static void promise8() {
        LampPresses x = Tapes.of("states 3;lamp 0;lamp 0 own 2;");
        for (int wrong : WRONG) {
            due("8: own(" + wrong + ", 0)", x.own(wrong, 0), NONE);
            due("8: own(0, " + wrong + ")", x.own(0, wrong), NONE);
        }
        due("8: own(2, 0)", x.own(2, 0), NONE);
        due("8: own(0, 3)", x.own(0, 3), NONE);
        due("8: it is so", x.own(1, 2), NONE);
        due("8: nothing happened", x.count(3), 0);
        due("8: own(1, 0)", x.own(1, 0), 2);
        due("8: of", x.of(1, 1), 0);
        due("8: own(1, 1)", x.own(1, 1), 0);
        due("8: own(0, 2)", x.own(0, 2), 1);
        due("8: undo", x.undo(), 2);
        due("8: of behind undo", x.of(0, 1), 1);
    }

    private static void promise9() {
        LampPresses x = Tapes.of("states 3;lamp 0;lamp 0 goal 2;");
        for (int wrong : WRONG) {
            due("9: goal(" + wrong + ", 0)", x.goal(wrong, 0), NONE);
            due("9: goal(0, " + wrong + ")", x.goal(0, wrong), NONE);
        }
        due("9: goal(2, 0)", x.goal(2, 0), NONE);
        due("9: goal(0, 3)", x.goal(0, 3), NONE);
        due("9: it is so", x.goal(1, 2), NONE);
        due("9: nothing happened", x.count(3), 0);
        due("9: goal(1, 1)", x.goal(1, 1), 2);
        due("9: of", x.of(1, 2), 1);
        due("9: the first plan", x.plan(1), 1);
        due("9: undo", x.undo(), 0);
        due("9: of behind undo", x.of(1, 2), 2);
        due("9: the first plan behind undo", x.plan(1), 2);
    }

    private static void promise10() {
        LampPresses x = Tapes.of("states 3;lamp 0;lamp 2;wire 0 1;");
        for (int wrong : WRONG) {
            due("10: show(" + wrong + ", 0)", x.show(wrong, 0), NONE);
            due("10: show(0, " + wrong + ")", x.show(0, wrong), NONE);
        }
        due("10: show(2, 0)", x.show(2, 0), NONE);
        due("10: show(0, 3)", x.show(0, 3), NONE);
        due("10: it is so", x.show(1, 2), NONE);
        due("10: nothing happened", x.count(3), 0);
        due("10: show(1, 1)", x.show(1, 1), 2);
        due("10: of", x.of(1, 0), 1);
        due("10: others stay", x.of(0, 0), 0);
        due("10: no press", x.count(5), 0);
        due("10: undo", x.undo(), 0);
        due("10: of behind undo", x.of(1, 0), 2);
    }

    private static void promise11() {
        LampPresses x = Tapes.of("states 5;lamp 1 own 2;lamp 0;lamp 4;lamp 3;wire 0 1 by 3;wire 0 2 by 4;");
        for (int wrong : WRONG) {
            due("11: press(" + wrong + ", 1)", x.press(wrong, 1), NONE);
            due("11: press(0, " + wrong + ")", x.press(0, wrong), NONE);
        }
        due("11: press(4, 1)", x.press(4, 1), NONE);
        due("11: press(0, 0)", x.press(0, 0), NONE);
        due("11: nothing happened", x.count(3) + x.count(5) + x.count(7), 0);
        due("11: press(0, 9)", x.press(0, 9), (1 + 9 * 2) % 5);
        due("11: lamp 1", x.of(1, 0), 9 * 3 % 5);
        due("11: lamp 2", x.of(2, 0), (4 + 9 * 4) % 5);
        due("11: lamp 3", x.of(3, 0), 3);
        due("11: presses", x.count(5), 9);
        due("11: the book", x.book(0, 1), 9);
        due("11: press(2, 1)", x.press(2, 1), 1);
        due("11: it goes back by the wire", x.of(0, 0), (4 + 4) % 5);
        due("11: presses", x.count(5), 10);
        due("11: acts", x.count(3), 2);
        due("11: a press that changes nothing is an act", x.press(3, 5), 3);
        due("11: acts", x.count(3), 3);
        due("11: undo", x.undo(), 2);
        due("11: presses behind undo", x.count(5), 10);
        due("11: undo", x.undo(), 1);
        due("11: presses behind undo", x.count(5), 9);
        due("11: lamp 0 behind undo", x.of(0, 0), 4);
    }

    private static void promise12() {
        LampPresses x = Tapes.of("states 3;lamp 2;lamp 1 goal 1;lamp 0 goal 2;");
        due("12: aim()", x.aim(), 2);
        due("12: goals", x.of(0, 2) * 100 + x.of(1, 2) * 10 + x.of(2, 2), 210);
        due("12: none would", x.aim(), NONE);
        due("12: one act", x.count(3), 1);
        due("12: undo", x.undo(), 0);
        due("12: goals behind undo", x.of(0, 2) * 100 + x.of(1, 2) * 10 + x.of(2, 2), 12);
        due("12: no lamps", new LampPresses().aim(), NONE);
    }

    private static void promise13() {
        LampPresses x = Tapes.of("states 3;lamp 1;lamp 2;lamp 0;wire 0 1;wire 1 2;");
        due("13: press(2, 4)", x.press(2, 4), 1);
        int total = x.plan(0) + x.plan(1) + x.plan(2);
        int firstPressed = x.plan(0) > 0 ? 0 : x.plan(1) > 0 ? 1 : 2;
        int times = x.plan(firstPressed);
        due("13: it has presses", total > 0, true);
        due("13: solve()", x.solve(), total);
        due("13: off", x.off(), 0);
        due("13: presses", x.count(5), 4 + total);
        int entries = x.count(7) - 1;
        due("13: the first lamp is entered first", x.book(entries - 1, 0), firstPressed);
        due("13: how often", x.book(entries - 1, 1), times);
        due("13: the entry ahead of it", x.book(entries, 0) * 10 + x.book(entries, 1), 24);
        due("13: no press", x.solve(), NONE);
        due("13: acts", x.count(3), 2);
        due("13: undo", x.undo(), 1);
        due("13: presses behind undo", x.count(5), 4);
        due("13: the book behind undo", x.count(7), 1);
        due("13: no lamps", new LampPresses().solve(), NONE);
        LampPresses y = Tapes.of("lamp 1;lamp 0;wire 0 1;");
        due("13: there is none", y.solve(), -2);
        due("13: nothing happened", y.count(3) + y.count(5) + y.count(7), 0);
        LampPresses z = Tapes.of("lamp 1;lamp 1;wire 0 1;");
        due("13: the first row", z.solve(), 1);
        due("13: presses lamp 1", z.book(0, 0), 1);
        LampPresses w = Tapes.of("states 5;lamp 1;lamp 0;lamp 3;");
        due("13: solve() of three apart", w.solve(), 4 + 2);
        due("13: by numbers, 2 the latest", w.book(0, 0) * 10 + w.book(0, 1), 22);
        due("13: lamps that are not pressed do not come", w.book(1, 0) * 10 + w.book(1, 1), 4);
        due("13: entries", w.count(7), 2);
    }

    private static String laid(int kind, int a, int b) {
        LampPresses x = new LampPresses();
        due("14: lay(" + kind + ", " + a + ", " + b + ")", x.lay(kind, a, b), a * b);
        String wires = Tapes.spelled(x).substring("states 2;".length() + a * b * "lamp 0;".length());
        return wires.replace("wire ", "").replace(" ", "").replace(";", " ").trim();
    }

    private static void promise14() {
        Check.due("14: a row of 1", laid(0, 1, 1), "");
        Check.due("14: a row of 4", laid(0, 4, 1), "01 12 23");
        Check.due("14: a ring of 3", laid(1, 3, 1), "01 02 12");
        Check.due("14: a ring of 5", laid(1, 5, 1), "01 04 12 23 34");
        Check.due("14: a ring of 10", laid(1, 10, 1), "01 09 12 23 34 45 56 67 78 89");
        Check.due("14: 2 by 3", laid(2, 2, 3), "01 03 12 14 25 34 45");
        Check.due("14: 3 by 2", laid(2, 3, 2), "01 02 13 23 24 35 45");
        Check.due("14: 1 by 10", laid(2, 1, 10), "01 12 23 34 45 56 67 78 89");
        Check.due("14: 10 by 1", laid(2, 10, 1), "01 12 23 34 45 56 67 78 89");
        Check.due("14: 3 by 3", laid(2, 3, 3), "01 03 12 14 25 34 36 45 47 58 67 78");
        Check.due("14: all of 1", laid(3, 1, 1), "");
        Check.due("14: all of 4", laid(3, 4, 1), "01 02 03 12 13 23");
        Check.due("14: a star of 1", laid(4, 1, 1), "");
        Check.due("14: a star of 4", laid(4, 4, 1), "01 02 03");
        LampPresses x = Tapes.of("states 5;lamp 2 own 3 goal 4;lamp 1;wire 0 1 by 3;");
        x.press(0, 3);
        due("14: lay", x.lay(0, 3, 1), 3);
        Check.due("14: all anew, M stays", Tapes.spelled(x), "states 5;lamp 0;lamp 0;lamp 0;wire 0 1;wire 1 2;");
        due("14: presses stay", x.count(5), 3);
        due("14: the book stays", x.book(0, 1), 3);
        due("14: undo", x.undo(), 1);
        due("14: own behind undo", x.of(0, 1), 3);
        due("14: weight behind undo", x.weight(0, 1), 3);
    }

    private static void promise14Wrong() {
        LampPresses x = Tapes.of("lamp 1;");
        int[][] wrong = {{-1, 3, 1}, {5, 3, 1}, {0, 0, 1}, {0, 11, 1}, {0, 3, 2}, {0, 3, 0}, {1, 2, 1}, {1, 1, 1},
            {1, 11, 1}, {1, 3, 3}, {2, 0, 3}, {2, 3, 0}, {2, 4, 3}, {2, 11, 1}, {2, 1, 11}, {2, -2, -2}, {3, 4, 2},
            {3, 0, 1}, {3, 11, 1}, {4, 5, 2}, {4, 0, 1}, {4, 11, 1}, {2, 65536, 65536}, {2, Integer.MIN_VALUE, 2},
            {2, Integer.MAX_VALUE, Integer.MAX_VALUE}, {Integer.MIN_VALUE, 1, 1}, {Integer.MAX_VALUE, 1, 1}};
        for (int[] w : wrong) {
            due("14: lay(" + w[0] + ", " + w[1] + ", " + w[2] + ")", x.lay(w[0], w[1], w[2]), NONE);
        }
        due("14: nothing happened", x.count(3) * 10 + x.count(1), 1);
    }

    private static void promise15() {
        LampPresses x = Tapes.of("states 3;lamp 1 own 2;lamp 2 goal 1;lamp 0;lamp 0;wire 0 1 by 2;wire 1 2;wire 0 3;");
        for (int wrong : WRONG) {
            due("15: swap(0, " + wrong + ")", x.swap(0, wrong), false);
            due("15: swap(" + wrong + ", 0)", x.swap(wrong, 0), false);
        }
        due("15: swap(0, 4)", x.swap(0, 4), false);
        due("15: both are one", x.swap(2, 2), false);
        due("15: nothing happened", x.count(3), 0);
        due("15: swap(0, 1)", x.swap(0, 1), true);
        Check.due("15: spell", Tapes.spelled(x),
            "states 3;lamp 2 goal 1;lamp 1 own 2;lamp 0;lamp 0;wire 0 1 by 2;wire 0 2;wire 1 3;");
        due("15: swap(3, 0)", x.swap(3, 0), true);
        Check.due("15: spell", Tapes.spelled(x),
            "states 3;lamp 0;lamp 1 own 2;lamp 0;lamp 2 goal 1;wire 0 1;wire 1 3 by 2;wire 2 3;");
        x.undo();
        due("15: undo", x.undo(), 0);
        Check.due("15: spell behind undo", Tapes.spelled(x),
            "states 3;lamp 1 own 2;lamp 2 goal 1;lamp 0;lamp 0;wire 0 1 by 2;wire 0 3;wire 1 2;");
    }

    private static void promise16() {
        LampPresses x = Tapes.of("states 3;lamp 0 goal 1;lamp 1;lamp 2;");
        for (int wrong : WRONG) {
            due("16: lift(" + wrong + ")", x.lift(wrong), NONE);
        }
        due("16: lift(0)", x.lift(0), NONE);
        due("16: lift(3)", x.lift(3), NONE);
        due("16: nothing happened", x.count(3), 0);
        due("16: lift(2)", x.lift(2), 3);
        Check.due("16: spell", Tapes.spelled(x), "states 3;lamp 2 goal 1;lamp 0;lamp 1;");
        due("16: no presses", x.count(5), 0);
        due("16: undo", x.undo(), 0);
        due("16: no lamps", new LampPresses().lift(1), NONE);
        LampPresses y = Tapes.of("lamp 1;");
        due("16: lift(1) of two states", y.lift(1), 1);
        due("16: it shows", y.of(0, 0), 0);
    }

    private static void promise17() {
        LampPresses x = Tapes.of("states 5;lamp 3 goal 2;lamp 0 own 0;lamp 0 own 4;wire 0 1 by 2;wire 1 2 by 3;");
        for (int wrong : WRONG) {
            due("17: scale(" + wrong + ")", x.scale(wrong), NONE);
        }
        due("17: scale(0)", x.scale(0), NONE);
        due("17: scale(1)", x.scale(1), NONE);
        due("17: scale(5)", x.scale(5), NONE);
        due("17: nothing happened", x.count(3), 0);
        due("17: scale(3)", x.scale(3), 4);
        Check.due("17: spell", Tapes.spelled(x),
            "states 5;lamp 3 own 3 goal 2;lamp 0 own 0;lamp 0 own 2;wire 0 1;wire 1 2 by 4;");
        due("17: undo", x.undo(), 0);
        due("17: weight behind undo", x.weight(1, 2), 3);
        LampPresses y = Tapes.of("states 5;lamp 3 own 0;lamp 1 own 0;");
        due("17: none would", y.scale(2), NONE);
        due("17: nothing happened", y.count(3), 0);
        LampPresses z = Tapes.of("lamp 1;lamp 1;wire 0 1;");
        due("17: two states", z.scale(2), NONE);
        due("17: no lamps", Tapes.of("states 3;").scale(2), NONE);
        LampPresses w = Tapes.of("states 3;lamp 1;lamp 1 own 2;wire 0 1;");
        due("17: scale(2)", w.scale(2), 3);
        Check.due("17: spell", Tapes.spelled(w), "states 3;lamp 1 own 2;lamp 1;wire 0 1 by 2;");
    }

    private static void promise18() {
        LampPresses x = Tapes.of("states 3;lamp 1 own 2;lamp 2 goal 1;lamp 0;wire 0 1 by 2;");
        due("18: mirror()", x.mirror(), 3);
        Check.due("18: spell", Tapes.spelled(x), "states 3;lamp 0;lamp 2 goal 1;lamp 1 own 2;wire 1 2 by 2;");
        due("18: undo", x.undo(), 0);
        x.lamp(1);
        due("18: of four", x.mirror(), 4);
        Check.due("18: spell", Tapes.spelled(x), "states 3;lamp 1;lamp 0;lamp 2 goal 1;lamp 1 own 2;wire 2 3 by 2;");
        LampPresses two = Tapes.of("lamp 1;lamp 0 own 0;wire 0 1;");
        due("18: of two", two.mirror(), 2);
        Check.due("18: spell", Tapes.spelled(two), "states 2;lamp 0 own 0;lamp 1;wire 0 1;");
        LampPresses y = Tapes.of("lamp 1;");
        due("18: one lamp", y.mirror(), NONE);
        due("18: nothing happened", y.count(3), 0);
        due("18: no lamps", new LampPresses().mirror(), NONE);
    }

    private static void promise19() {
        LampPresses x = Tapes.of("states 5;lamp 0;");
        due("19: none can", x.undo(), NONE);
        for (int i = 1; i <= 14; i++) {
            due("19: press", x.press(0, 1), i % 5);
            due("19: acts", x.count(3), Math.min(i, 12));
        }
        for (int left = 11; left >= 0; left--) {
            due("19: undo", x.undo(), left);
            due("19: shows", x.of(0, 0), (left + 2) % 5);
            due("19: presses", x.count(5), left + 2);
        }
        due("19: none more", x.undo(), NONE);
        due("19: two stay", x.count(5), 2);
        due("19: an act behind undo", x.press(0, 3), 0);
        due("19: undo of it", x.undo(), 0);
        due("19: shows", x.of(0, 0), 2);
        Tapes.put(x, "lamp 1;");
        x.press(0, 1);
        x.undo();
        due("19: the tape stays", x.count(4), 7);
        LampPresses y = new LampPresses();
        y.lamp(1);
        y.lamp(0);
        y.wire(0, 1, 1);
        y.lay(3, 5, 1);
        due("19: undo of lay", y.undo(), 3);
        due("19: rank", y.rank(), 1);
        due("19: undo of wire", y.undo(), 2);
        due("19: rank", y.rank(), 2);
        due("19: undo of lamp", y.undo(), 1);
        due("19: undo of lamp", y.undo(), 0);
        due("19: no lamps", y.count(1), 0);
    }

    private static void promise19Book() {
        LampPresses x = Tapes.of("states 5;lamp 0;lamp 0;");
        for (int i = 0; i < 25; i++) {
            x.press(i % 2, 1 + i % 9);
        }
        due("19: the oldest entry", x.book(19, 1), 1 + 5);
        x.undo();
        due("19: entries behind undo", x.count(7), 20);
        due("19: the entry that had gone is back", x.book(19, 0) * 10 + x.book(19, 1), 5);
        due("19: the latest", x.book(0, 0) * 10 + x.book(0, 1), 16);
    }

    // ---- asked, of plans

    private static void promise22And23() {
        int[][] rows = {{1, 1}, {2, 1}, {3, 3}, {4, 4}, {5, 4}, {6, 6}, {7, 7}, {8, 7}, {9, 9}, {10, 10}};
        for (int[] row : rows) {
            LampPresses x = new LampPresses();
            x.lay(0, row[0], 1);
            due("22: rank of a row of " + row[0], x.rank(), row[1]);
            due("23: quiet of a row of " + row[0], x.quiet(), 1 << row[0] - row[1]);
        }
        LampPresses five = Tapes.of("states 5;lamp 0 own 0;lamp 0 own 0;lamp 3;lamp 1 own 4;wire 2 3 by 2;");
        due("22: 1 times 4 is 2 times 2", five.rank(), 1);
        due("23: quiet", five.quiet(), 125);
        five.own(0, 2);
        due("22: one more", five.rank(), 2);
        due("23: quiet", five.quiet(), 25);
        due("22: no lamps", new LampPresses().rank(), 0);
        due("23: no lamps", new LampPresses().quiet(), 1);
        LampPresses most = Tapes.of("states 5;" + "lamp 0 own 0;".repeat(10));
        due("23: the most", most.quiet(), 9765625);
    }

    private static void promise24() {
        LampPresses x = new LampPresses();
        x.lay(0, 5, 1);
        int[] quiet = {1, 1, 0, 1, 1};
        for (int i = 0; i < 5; i++) {
            due("24: base(0, " + i + ") of a row of 5", x.base(0, i), quiet[i]);
        }
        due("24: base(1, 0)", x.base(1, 0), NONE);
        due("24: base(-1, 0)", x.base(-1, 0), NONE);
        for (int wrong : WRONG) {
            due("24: base(0, " + wrong + ")", x.base(0, wrong), NONE);
            due("24: base(" + wrong + ", 0)", x.base(wrong, 0), NONE);
        }
        due("24: base(0, 5)", x.base(0, 5), NONE);
        LampPresses y = Tapes.of("states 5;lamp 0;lamp 0 own 4;lamp 0 own 0;wire 0 1 by 2;");
        due("24: the second of 1 press", y.base(0, 0) * 100 + y.base(0, 1) * 10 + y.base(0, 2), 120);
        due("24: a lamp that does nothing", y.base(1, 0) * 100 + y.base(1, 1) * 10 + y.base(1, 2), 1);
        LampPresses z = Tapes.of("states 3;lamp 0;");
        due("24: no quiet row but one", z.base(0, 0), NONE);
    }

    private static void promise25And26() {
        LampPresses x = Tapes.of("states 3;lamp 1;lamp 1;wire 0 1;");
        due("25: plans", x.plans(), 3);
        due("26: the first presses lamp 1 alone", x.plan(0) * 10 + x.plan(1), 2);
        x.show(0, 2);
        due("25: none", x.plans(), 0);
        due("26: none", x.plan(0), -2);
        due("26: none", x.plan(1), -2);
        for (int wrong : WRONG) {
            due("26: plan(" + wrong + ")", x.plan(wrong), NONE);
        }
        due("26: plan(2)", x.plan(2), NONE);
        x.goal(0, 1);
        due("25: plans to goals that are not 0", x.plans(), 3);
        due("26: 1 and 1 come to 1 and 0 more by 2", x.plan(0) * 10 + x.plan(1), 2);
        LampPresses y = Tapes.of("states 5;lamp 3 own 2;lamp 0;wire 0 1 by 3;");
        // 2a + 3b = 2 and 3a + b = 0: b = 2a, 8a = 2, a = 4, b = 3.
        due("26: by two equations", y.plan(0) * 10 + y.plan(1), 43);
        due("25: one", y.plans(), 1);
        due("25: no lamps", new LampPresses().plans(), 1);
        due("25: the most", Tapes.of("states 5;" + "lamp 0 own 0;".repeat(10)).plans(), 9765625);
    }

    private static void promise27() {
        LampPresses x = Tapes.of("lamp 1;lamp 1;lamp 1;lamp 0;lamp 0;wire 0 1;wire 1 2;wire 2 3;wire 3 4;");
        due("26: the first plan", x.plan(0) * 1000 + x.plan(1) * 100 + x.plan(2) * 10 + x.plan(3), 100);
        due("27: fewest", x.fewest(NONE), 1);
        due("27: lamp 1", x.fewest(1), 1);
        due("27: lamp 4", x.fewest(4), 0);
        for (int wrong : WRONG) {
            due("27: fewest(" + wrong + ")", x.fewest(wrong), wrong == NONE ? 1 : NONE);
        }
        due("27: fewest(5)", x.fewest(5), NONE);
        x.show(0, 0);
        due("27: there is none", x.fewest(NONE), -2);
        due("27: there is none", x.fewest(0), -2);
        due("27: no such lamp", x.fewest(5), NONE);
        LampPresses y = Tapes.of("states 5;lamp 1;lamp 2;wire 0 1 by 2;");
        y.own(1, 4);
        // a + 2b = 4: rows 02, 10 is none; 40, 21, 13 .. : 02 has the fewest.
        due("27: of five", y.fewest(NONE), 2);
        due("27: of five, lamp 1", y.fewest(1), 2);
        LampPresses z = Tapes.of("states 3;lamp 1;lamp 1;wire 0 1;");
        due("27: 02 is the first of three with two presses", z.fewest(0) * 10 + z.fewest(1), 2);
        // A press of each does what 1 2 2 1 tells, once or twice.
        LampPresses w = Tapes.of("states 3;lamp 2;lamp 1;lamp 1;lamp 2;wire 0 1 by 2;wire 0 2 by 2;wire 1 2;"
            + "wire 0 3;wire 1 3 by 2;wire 2 3 by 2;");
        due("27: plans", w.plans(), 27);
        due("26: the first plan", w.plan(0) * 1000 + w.plan(1) * 100 + w.plan(2) * 10 + w.plan(3), 1);
        due("27: one press", w.fewest(NONE), 1);
        due("27: no lamps", new LampPresses().fewest(NONE), 0);
        due("27: no lamps", new LampPresses().fewest(0), NONE);
    }

    private static void promise27Untold() {
        LampPresses told = Tapes.of("states 3;" + "lamp 0 own 0;".repeat(10));
        due("27: 59049 plans", told.plans(), 59049);
        due("27: are told", told.fewest(NONE), 0);
        due("37: are told", told.sparest(9), 0);
        LampPresses six = Tapes.of("states 5;" + "lamp 0 own 0;".repeat(6) + "lamp 3;");
        due("27: 15625 plans", six.plans(), 15625);
        due("27: are told", six.fewest(6), 2);
        LampPresses x = Tapes.of("states 5;" + "lamp 0 own 0;".repeat(7));
        due("27: 78125 plans", x.plans(), 78125);
        due("27: are not told", x.fewest(NONE), -3);
        due("27: are not told", x.fewest(6), -3);
        due("27: no such lamp", x.fewest(7), NONE);
        due("37: are not told", x.sparest(NONE), -3);
        due("37: no such lamp", x.sparest(7), NONE);
        x.goal(3, 1);
        due("27: there is none", x.fewest(NONE), -2);
        due("37: there is none", x.sparest(0), -2);
    }

    private static void promise28() {
        LampPresses x = Tapes.of("states 3;lamp 1;lamp 1;lamp 1;wire 0 1;");
        due("28: lamp 0 is not", x.fixed(0), -3);
        due("28: lamp 1 is not", x.fixed(1), -3);
        due("28: lamp 2 is", x.fixed(2), 2);
        for (int wrong : WRONG) {
            due("28: fixed(" + wrong + ")", x.fixed(wrong), NONE);
        }
        due("28: fixed(3)", x.fixed(3), NONE);
        x.show(0, 0);
        due("28: there is none", x.fixed(0), -2);
        due("28: there is none", x.fixed(2), -2);
        due("28: no such lamp", x.fixed(3), NONE);
        LampPresses row = new LampPresses();
        row.lay(0, 5, 1);
        due("28: the middle of a row of 5", row.fixed(2), 0);
        due("28: its end", row.fixed(4), -3);
    }

    private static void promise29And30() {
        LampPresses x = new LampPresses();
        x.lay(0, 3, 1);
        due("29: alone(0)", x.alone(0), 2);
        due("29: alone(1)", x.alone(1), 3);
        due("30: alones", x.alones(), 7);
        x.lay(0, 2, 1);
        due("29: it can't", x.alone(0), -2);
        due("30: none", x.alones(), 0);
        x.lamp(1);
        due("29: a lamp apart", x.alone(2), 1);
        due("30: lamp 2", x.alones(), 4);
        for (int wrong : WRONG) {
            due("29: alone(" + wrong + ")", x.alone(wrong), NONE);
        }
        due("29: alone(3)", x.alone(3), NONE);
        LampPresses y = Tapes.of("states 5;lamp 3 own 2 goal 1;lamp 1 own 0;lamp 1 own 4;");
        due("29: 3 times 2 is 1", y.alone(0), 3);
        due("29: own 0", y.alone(1), -2);
        due("29: 4 times 4 is 1", y.alone(2), 4);
        due("30: alones", y.alones(), 5);
        LampPresses z = Tapes.of("states 3;lamp 0;lamp 0 own 0;lamp 0 own 0;wire 1 2;wire 0 1;");
        // Lamp 1 is stepped by 0 and 2: 0 0 1 is the first row; lamp 2 by 1 alone, and 1 brings 0 back.
        due("29: the first row", z.alone(1), 1);
        due("30: all of them", z.alones(), 7);
        due("30: as the first call", Tapes.of("lamp 1;lamp 0 own 0;").alones(), 1);
        due("30: no lamps", new LampPresses().alones(), 0);
    }

    private static void promise35() {
        LampPresses x = Tapes.of("states 3;lamp 1;lamp 1;lamp 2 own 0;wire 0 1;");
        due("35: of none", x.part(0), 27);
        due("35: of lamp 0", x.part(1), 9);
        due("35: of lamps 0, 1", x.part(3), 9);
        due("35: of lamp 2", x.part(4), 0);
        due("35: of all", x.part(7), 0);
        due("35: a lamp that there is not", x.part(8), NONE);
        due("35: a lamp that there is not", x.part(Integer.MAX_VALUE), NONE);
        due("35: below 0", x.part(-1), NONE);
        due("35: below 0", x.part(Integer.MIN_VALUE), NONE);
        x.show(0, 0);
        due("35: lamps 0, 1 can't", x.part(3), 0);
        due("35: lamp 0 can", x.part(1), 9);
        due("35: lamp 1 can", x.part(2), 9);
        LampPresses y = Tapes.of("states 5;" + "lamp 1;".repeat(10));
        due("35: ten lamps", y.part(1023), 1);
        due("35: of none of ten", y.part(0), 9765625);
        due("35: an 11th", y.part(1024), NONE);
    }

    private static void promise36() {
        LampPresses x = Tapes.of("states 3;lamp 1;lamp 1;lamp 0 own 0;wire 0 1;");
        due("36: all", x.only(7), 9);
        due("36: none", x.only(0), 0);
        due("36: lamp 0", x.only(1), 1);
        due("36: lamps 0, 1", x.only(3), 3);
        due("36: lamps 0, 2", x.only(5), 3);
        due("36: lamp 2", x.only(4), 0);
        due("36: a lamp that there is not", x.only(8), NONE);
        due("36: a lamp that there is not", x.only(Integer.MAX_VALUE), NONE);
        due("36: below 0", x.only(-1), NONE);
        due("36: below 0", x.only(Integer.MIN_VALUE), NONE);
        x.aim();
        due("36: none, all show their goals", x.only(0), 1);
        due("36: no lamps", new LampPresses().only(0), 1);
        due("36: no lamps", new LampPresses().only(1), NONE);
    }

    private static void promise37() {
        // Lamp 0 does what four presses of lamp 1 and more do: fewest and sparest part.
        LampPresses x = Tapes.of("states 5;lamp 1 own 1;lamp 2 own 4;wire 0 1 by 2;");
        x.show(0, 3);
        x.show(1, 1);
        // a + 2b = 2: 01, 20, 43, 14, 32.
        due("37: one lamp", x.sparest(NONE), 1);
        due("37: the first", x.sparest(0) * 10 + x.sparest(1), 1);
        LampPresses y = Tapes.of("states 5;lamp 0 own 1;lamp 0 own 4;wire 0 1 by 2;");
        y.goal(0, 3);
        y.goal(1, 1);
        // a + 2b = 3: 04, 11, 23, 30, 42: the fewest is 11, the sparest 04.
        due("27: two presses", y.fewest(NONE) * 100 + y.fewest(0) * 10 + y.fewest(1), 211);
        due("37: one lamp", y.sparest(NONE), 1);
        due("37: the first", y.sparest(0) * 10 + y.sparest(1), 4);
        for (int wrong : WRONG) {
            due("37: sparest(" + wrong + ")", y.sparest(wrong), wrong == NONE ? 1 : NONE);
        }
        due("37: sparest(2)", y.sparest(2), NONE);
        y.goal(0, 0);
        due("37: there is none", y.sparest(NONE), -2);
        due("37: there is none", y.sparest(1), -2);
        due("37: no such lamp", y.sparest(2), NONE);
        due("37: no lamps", new LampPresses().sparest(NONE), 0);
    }

    private static void promise39() {
        LampPresses x = new LampPresses();
        due("39: no lamps", x.hardest(), -2);
        x.lay(0, 3, 1);
        due("39: the middle", x.hardest(), 1);
        x.lay(0, 2, 1);
        due("39: none can", x.hardest(), -2);
        x.lamp(0);
        due("39: the one that can", x.hardest(), 2);
        x.lamp(1);
        due("39: of several the first", x.hardest(), 2);
    }

    private static void promise42() {
        LampPresses x = Tapes.of("states 5;lamp 2;lamp 1;lamp 0 own 0;");
        due("42: ways", x.ways(), 25);
        x.own(2, 3);
        due("42: ways", x.ways(), 125);
        due("42: no lamps", new LampPresses().ways(), 1);
        due("42: the most", Tapes.of("states 5;" + "lamp 1;".repeat(10)).ways(), 9765625);
    }

    // ---- asked, of lamps

    private static void promise20() {
        LampPresses x = Tapes.of("states 5;lamp 3 own 2 goal 4;lamp 0;lamp 1;lamp 1;wire 0 1 by 4;wire 0 3 by 3;");
        int[] due = {3, 2, 4, 2, 10, 7};
        for (int what = 0; what < 6; what++) {
            due("20: of(0, " + what + ")", x.of(0, what), due[what]);
        }
        for (int wrong : WRONG) {
            due("20: of(0, " + wrong + ")", x.of(0, wrong), NONE);
            due("20: of(" + wrong + ", 0)", x.of(wrong, 0), NONE);
        }
        due("20: of(0, 6)", x.of(0, 6), NONE);
        due("20: of(4, 0)", x.of(4, 0), NONE);
        due("20: no wires", x.of(2, 3) + x.of(2, 4) + x.of(2, 5), 0);
    }

    private static void promise21() {
        LampPresses x = Tapes.of("states 5;lamp 3 own 2;lamp 0;lamp 1;wire 0 1 by 4;");
        due("21: weight(0, 1)", x.weight(0, 1), 4);
        due("21: weight(1, 0)", x.weight(1, 0), 4);
        due("21: none", x.weight(0, 2), 0);
        due("21: own", x.weight(0, 0), 2);
        for (int wrong : WRONG) {
            due("21: weight(0, " + wrong + ")", x.weight(0, wrong), NONE);
            due("21: weight(" + wrong + ", 0)", x.weight(wrong, 0), NONE);
        }
        due("21: weight(3, 3)", x.weight(3, 3), NONE);
    }

    private static void promise31() {
        LampPresses x = Tapes.of("states 3;lamp 2 goal 2;lamp 1;lamp 0 goal 1;");
        due("31: off", x.off(), 2);
        x.goal(1, 1);
        due("31: off", x.off(), 1);
        x.press(0, 1);
        due("31: off", x.off(), 2);
        due("31: no lamps", new LampPresses().off(), 0);
    }

    private static void promise32() {
        LampPresses x = Tapes.of("lamp 0;lamp 0;lamp 0;lamp 0;lamp 0 own 0;lamp 0;wire 0 5;wire 5 2;wire 1 3;");
        due("32: parts", x.parts(), 3);
        x.wire(3, 2, 1);
        due("32: parts", x.parts(), 2);
        x.drop(5);
        due("32: parts", x.parts(), 3);
        x.lay(0, 10, 1);
        due("32: a row", x.parts(), 1);
        due("32: no lamps", new LampPresses().parts(), 0);
    }

    private static void promise33() {
        LampPresses x = new LampPresses();
        x.lay(1, 10, 1);
        due("33: half a ring", x.distance(0, 5), 5);
        due("33: the short way", x.distance(0, 7), 3);
        due("33: and back", x.distance(7, 0), 3);
        due("33: both are one", x.distance(4, 4), 0);
        x.wire(0, 9, 0);
        due("33: a row", x.distance(0, 9), 9);
        due("33: a row, back", x.distance(9, 0), 9);
        x.wire(4, 5, 0);
        due("33: no such way", x.distance(0, 9), -2);
        due("33: within a part", x.distance(0, 4), 4);
        for (int wrong : WRONG) {
            due("33: distance(0, " + wrong + ")", x.distance(0, wrong), NONE);
            due("33: distance(" + wrong + ", 0)", x.distance(wrong, 0), NONE);
            due("33: distance(" + wrong + ", " + wrong + ")", x.distance(wrong, wrong), NONE);
        }
    }

    private static void promise34() {
        LampPresses x = Tapes.of("states 3;lamp 0;lamp 0;lamp 0;wire 0 1;wire 0 2 by 2;wire 1 2 by 2;");
        due("34: same", x.same(0, 1), 1);
        due("34: and back", x.same(1, 0), 1);
        due("34: not so", x.same(0, 2), 0);
        due("34: itself", x.same(2, 2), 1);
        x.own(0, 2);
        due("34: another own", x.same(0, 1), 0);
        LampPresses y = Tapes.of("lamp 1 own 0;lamp 0 own 0;lamp 0;");
        due("34: both do nothing", y.same(0, 1), 1);
        due("34: not so", y.same(0, 2), 0);
        for (int wrong : WRONG) {
            due("34: same(0, " + wrong + ")", y.same(0, wrong), NONE);
            due("34: same(" + wrong + ", 0)", y.same(wrong, 0), NONE);
        }
        due("34: same(3, 3)", y.same(3, 3), NONE);
    }

    private static void promise38() {
        LampPresses x = Tapes.of("lamp 1;lamp 1;lamp 1;lamp 1;wire 0 1;wire 1 2;wire 2 3;");
        // 1 puts out 0, 1, 2, as 2 does 1, 2, 3: the first; then 3 alone is left: 3 and 2 bring no fewer.
        due("38: presses", x.greedy(0), 1);
        due("38: left", x.greedy(1), 1);
        due("38: nothing happens", x.count(3) + x.count(5), 0);
        for (int wrong : WRONG) {
            due("38: greedy(" + wrong + ")", x.greedy(wrong), NONE);
        }
        due("38: greedy(2)", x.greedy(2), NONE);
        LampPresses y = Tapes.of("states 3;lamp 1;lamp 2;lamp 0;");
        due("38: a press that brings no fewer", y.greedy(0), 1);
        due("38: left", y.greedy(1), 1);
        LampPresses z = Tapes.of("states 3;lamp 2;lamp 2;lamp 2;lamp 2;lamp 2;wire 0 1;wire 3 4;");
        due("38: three presses", z.greedy(0), 3);
        due("38: none left", z.greedy(1), 0);
        LampPresses w = Tapes.of("states 3;lamp 2;lamp 2;lamp 1;wire 0 1;wire 0 2;");
        // 0: 0 0 2; then 0 again would bring 1 1 0, 2: 1 0 0: none fewer than one.
        due("38: presses", w.greedy(0), 1);
        due("38: left", w.greedy(1), 1);
        LampPresses v = Tapes.of("states 3;lamp 1 own 2;lamp 1 own 2 goal 2;lamp 0 goal 1;lamp 0 goal 1;lamp 0 goal 2;"
            + "wire 0 1 by 2;wire 0 2;wire 0 3;");
        due("38: left", v.greedy(1), 2);
        due("38: no lamps", new LampPresses().greedy(0) + new LampPresses().greedy(1), 0);
    }

    private static void promise40() {
        LampPresses x = Tapes.of("states 5;lamp 3 own 4;lamp 2;lamp 1;wire 0 1 by 4;");
        due("40: itself", x.after(0, 0), 2);
        due("40: wired", x.after(0, 1), 1);
        due("40: back", x.after(1, 0), 2);
        due("40: not wired", x.after(0, 2), 1);
        due("40: nothing happens", x.count(3) + x.count(5), 0);
        for (int wrong : WRONG) {
            due("40: after(0, " + wrong + ")", x.after(0, wrong), NONE);
            due("40: after(" + wrong + ", 0)", x.after(wrong, 0), NONE);
        }
        due("40: after(3, 3)", x.after(3, 3), NONE);
    }

    private static void promise41() {
        LampPresses x = Tapes.of("states 5;lamp 3 own 4;lamp 2 own 0;lamp 1 own 0;wire 0 1 by 4;");
        due("41: M", x.cycle(0), 5);
        due("41: by a wire alone", x.cycle(1), 5);
        due("41: it does nothing", x.cycle(2), 1);
        for (int wrong : WRONG) {
            due("41: cycle(" + wrong + ")", x.cycle(wrong), NONE);
        }
        due("41: cycle(3)", x.cycle(3), NONE);
        due("41: two states", Tapes.of("lamp 1;").cycle(0), 2);
        LampPresses y = Tapes.of("lamp 1;lamp 0;wire 0 1;");
        due("41: two that are 2 together", y.cycle(0), 2);
    }

    private static void promise43() {
        LampPresses x = new LampPresses();
        due("43: no lamps", x.hub(), -2);
        x.lay(0, 5, 1);
        due("43: of several the first", x.hub(), 1);
        x.wire(3, 0, 1);
        due("43: the most", x.hub(), 3);
        x.lay(0, 1, 1);
        due("43: no wires", x.hub(), 0);
        LampPresses y = Tapes.of("states 5;lamp 0;lamp 0;lamp 0;lamp 0;wire 0 1 by 4;wire 2 1;wire 2 3;wire 0 3 by 4;");
        y.wire(0, 1, 0);
        due("43: wires, not weights", y.hub(), 2);
    }

    private static void promise44() {
        LampPresses x = Tapes.of("states 3;lamp 0;lamp 1;lamp 2;");
        due("44: empty", x.book(0, 0), NONE);
        x.press(2, 7);
        x.press(0, 4);
        due("44: the latest", x.book(0, 0) * 10 + x.book(0, 1), 4);
        due("44: the one ahead", x.book(1, 0) * 10 + x.book(1, 1), 27);
        due("44: no third", x.book(2, 0), NONE);
        for (int wrong : WRONG) {
            due("44: book(0, " + wrong + ")", x.book(0, wrong), NONE);
            due("44: book(" + wrong + ", 0)", x.book(wrong, 0), NONE);
        }
        due("44: book(0, 2)", x.book(0, 2), NONE);
        x.show(0, 0);
        due("44: show is no press", x.count(7), 2);
        for (int i = 0; i < 18; i++) {
            x.press(1, 3);
        }
        due("44: twenty", x.count(7), 20);
        due("44: the oldest", x.book(19, 1), 7);
        x.press(1, 2);
        due("44: still twenty", x.count(7), 20);
        due("44: the oldest has gone", x.book(19, 1), 4);
        due("44: no 21st", x.book(20, 0), NONE);
    }

    // ---- levels

    private static void promise45() {
        LampPresses x = new LampPresses();
        due("45: no lamps", x.deepest(), 0);
        x.lay(0, 3, 1);
        due("45: a row of 3", x.deepest(), 3);
        x.lay(0, 2, 1);
        due("45: a row of 2", x.deepest(), 1);
        LampPresses y = Tapes.of("states 5;lamp 3;lamp 1 own 2;lamp 0 own 0;");
        due("45: apart", y.deepest(), 8);
        y.wire(0, 1, 1);
        due("45: of all unlike rows", y.deepest(), 8);
        y.own(1, 1);
        due("45: two that do the same", y.deepest(), 4);
        y.own(1, 1);
        y.press(0, 1);
        due("45: wherever one is", y.deepest(), 4);
    }

    private static void promise46() {
        LampPresses x = Tapes.of("states 3;" + "lamp 1;".repeat(10));
        int[] ways = {1, 10, 55, 210, 615, 1452, 2850, 4740, 6765, 8350, 8953};
        for (int l = 0; l <= 20; l++) {
            due("46: level(" + l + ") of ten apart", x.level(l), ways[Math.min(l, 20 - l)]);
        }
        due("46: level(21)", x.level(21), 0);
        due("46: level(40)", x.level(40), 0);
        due("46: level(41)", x.level(41), 0);
        due("46: level(greatest)", x.level(Integer.MAX_VALUE), 0);
        due("46: level(-1)", x.level(-1), NONE);
        due("46: level(least)", x.level(Integer.MIN_VALUE), NONE);
        LampPresses row = new LampPresses();
        row.lay(0, 5, 1);
        due("46: 16 ways of a row of 5", row.level(0) + row.level(1) + row.level(2) + row.level(3), 16);
        due("46: one press", row.level(1), 5);
        LampPresses y = Tapes.of("states 3;lamp 0;lamp 0;lamp 2;wire 0 1;");
        due("46: one press of 0, 1 or 2", y.level(1), 2);
        due("46: two presses", y.level(2), 3);
        due("46: three", y.level(3), 2);
        due("46: four", y.level(4), 1);
    }

    private static void promise47() {
        LampPresses x = Tapes.of("states 3;lamp 1;lamp 0;lamp 2;wire 0 1;wire 1 2;");
        due("47: as it is", x.levelOf(1 * 9 + 0 * 3 + 2), 0);
        due("47: one press of lamp 0", x.levelOf(2 * 9 + 1 * 3 + 2), 1);
        due("47: one press of lamp 2", x.levelOf(1 * 9 + 1 * 3 + 0), 1);
        due("47: two of lamp 1", x.levelOf(0 * 9 + 2 * 3 + 1), 2);
        due("47: the last", x.levelOf(26) >= 0, true);
        due("47: 27", x.levelOf(27), NONE);
        due("47: below 0", x.levelOf(-1), NONE);
        due("47: least", x.levelOf(Integer.MIN_VALUE), NONE);
        due("47: greatest", x.levelOf(Integer.MAX_VALUE), NONE);
        LampPresses y = Tapes.of("lamp 1;lamp 0;wire 0 1;");
        due("47: can't", y.levelOf(0), -2);
        due("47: can", y.levelOf(1), 1);
        due("47: can't", y.levelOf(3), -2);
    }

    private static void promise48() {
        LampPresses x = Tapes.of("states 3;lamp 1;lamp 0;lamp 2 own 2;");
        due("48: two more each, lamp 0", x.far(0), 0);
        due("48: lamp 1", x.far(1), 2);
        due("48: lamp 2 by 2", x.far(2), 0);
        x.show(0, 0);
        due("48: from elsewhere", x.far(0), 2);
        for (int wrong : WRONG) {
            due("48: far(" + wrong + ")", x.far(wrong), NONE);
        }
        due("48: far(3)", x.far(3), NONE);
        LampPresses row = new LampPresses();
        row.lay(1, 4, 1);
        due("48: a ring of 4 is four deep", row.deepest(), 4);
        due("48: far of it", row.far(0) * 8 + row.far(1) * 4 + row.far(2) * 2 + row.far(3), 15);
        LampPresses y = Tapes.of("states 3;lamp 0;lamp 0;wire 0 1;lamp 1 own 0;");
        due("48: two presses of one", y.far(0) * 100 + y.far(1) * 10 + y.far(2), 221);
        y.press(0, 1);
        due("48: behind a press", y.far(0) * 100 + y.far(1) * 10 + y.far(2), 1);
        LampPresses z = Tapes.of("lamp 0;lamp 0;lamp 0;wire 0 1;wire 1 2;wire 0 2;lamp 1;lamp 0;wire 3 4;");
        due("48: the first of several", z.deepest(), 2);
        due("48: far of both parts", z.far(0) * 16 + z.far(1) * 8 + z.far(2) * 4 + z.far(3) * 2 + z.far(4), 29);
    }

    private static void levelsUntold() {
        LampPresses x = Tapes.of("states 5;" + "lamp 1;".repeat(6));
        due("45: six of five are told", x.deepest(), 24);
        due("46: six of five", x.level(24), 1);
        due("47: six of five", x.levelOf(15624), 18);
        due("48: six of five", x.far(5), 0);
        x.lamp(2);
        due("45: seven of five are not", x.deepest(), -3);
        due("46: not told", x.level(0), -3);
        due("46: below 0", x.level(-1), NONE);
        due("47: not told", x.levelOf(0), -3);
        due("47: not told", x.levelOf(78124), -3);
        due("47: out of bounds", x.levelOf(78125), NONE);
        due("47: out of bounds", x.levelOf(-1), NONE);
        due("48: not told", x.far(6), -3);
        due("48: no such lamp", x.far(7), NONE);
        x.own(0, 0);
        due("47: not told, ahead of can't", x.levelOf(0), -3);
        LampPresses ten = Tapes.of("states 5;" + "lamp 1;".repeat(10));
        due("47: ten of five", ten.levelOf(9765624), -3);
        due("47: ten of five, out of bounds", ten.levelOf(9765625), NONE);
        LampPresses two = Tapes.of("lamp 0;".repeat(10));
        due("45: ten of two", two.deepest(), 10);
        due("46: ten of two", two.level(5), 252);
        due("47: ten of two", two.levelOf(1023), 10);
    }

    // ---- were

    private static void promise49() {
        LampPresses x = Tapes.of("states 3;lamp 1;lamp 1;wire 0 1;");
        due("49: as it is", x.byOwn(0, 1), 3);
        due("49: own 2", x.byOwn(0, 2), 1);
        due("49: own 0", x.byOwn(1, 0), 1);
        due("49: nothing happens", x.count(3) * 10 + x.of(0, 1), 1);
        due("49: plans", x.plans(), 3);
        x.show(0, 0);
        due("49: none", x.byOwn(1, 1), 0);
        due("49: one", x.byOwn(1, 2), 1);
        for (int wrong : WRONG) {
            due("49: byOwn(" + wrong + ", 1)", x.byOwn(wrong, 1), NONE);
            due("49: byOwn(0, " + wrong + ")", x.byOwn(0, wrong), NONE);
        }
        due("49: byOwn(2, 1)", x.byOwn(2, 1), NONE);
        due("49: byOwn(0, 3)", x.byOwn(0, 3), NONE);
    }

    private static void promise50() {
        LampPresses x = Tapes.of("states 3;lamp 1;lamp 1;wire 0 1;");
        due("50: as it is", x.byWire(0, 1, 1), 3);
        due("50: no wire", x.byWire(1, 0, 0), 1);
        due("50: by 2", x.byWire(1, 0, 2), 0);
        due("50: nothing happens", x.count(3) * 10 + x.weight(0, 1), 1);
        due("50: plans", x.plans(), 3);
        for (int wrong : WRONG) {
            due("50: byWire(" + wrong + ", 1, 1)", x.byWire(wrong, 1, 1), NONE);
            due("50: byWire(0, " + wrong + ", 1)", x.byWire(0, wrong, 1), NONE);
            due("50: byWire(0, 1, " + wrong + ")", x.byWire(0, 1, wrong), NONE);
        }
        due("50: byWire(0, 2, 1)", x.byWire(0, 2, 1), NONE);
        due("50: both are one", x.byWire(1, 1, 1), NONE);
        due("50: out of bounds", x.byWire(0, 1, 3), NONE);
    }

    private static void promise51() {
        LampPresses x = new LampPresses();
        x.lay(0, 4, 1);
        due("22: rank", x.rank(), 4);
        due("51: an end", x.without(0), 3);
        due("51: one beside it", x.without(1), 2);
        due("51: nothing happens", x.count(1), 4);
        for (int wrong : WRONG) {
            due("51: without(" + wrong + ")", x.without(wrong), NONE);
        }
        due("51: without(4)", x.without(4), NONE);
        due("51: the only one", Tapes.of("lamp 1;").without(0), 0);
        x.lay(0, 5, 1);
        due("51: it can stay as it is", x.without(0), 4);
    }

    private static void promise52() {
        LampPresses x = Tapes.of("states 5;lamp 0;lamp 3;lamp 1;wire 1 2;");
        due("52: lamp 0 does not help, lamp 1 showing 1 does", x.mend(), 11);
        due("52: nothing happens", x.count(3), 0);
        x.show(1, 1);
        due("52: there is one already", x.mend(), -2);
        x.goal(0, 3);
        due("52: there is one still", x.mend(), -2);
        x.own(0, 0);
        due("52: lamp 0 showing 3", x.mend(), 3);
        x.show(1, 0);
        due("52: none does", x.mend(), -2);
        due("52: no lamps", new LampPresses().mend(), -2);
        LampPresses y = Tapes.of("lamp 0;lamp 1;wire 0 1;");
        due("52: lamp 0 showing 1", y.mend(), 1);
        LampPresses z = Tapes.of("states 3;lamp 1;lamp 2 own 0 goal 1;lamp 2 own 0 goal 2;");
        due("52: lamp 1 showing 1", z.mend(), 11);
        due("52: and again", z.mend(), 11);
    }

    private static void promise53() {
        LampPresses x = Tapes.of("states 5;lamp 2;lamp 2;");
        due("53: all", x.even(), 31);
        x.own(0, 0);
        due("53: that which lamp 0 shows", x.even(), 4);
        x.own(1, 0);
        due("53: as it is", x.even(), 4);
        x.show(1, 3);
        due("53: none", x.even(), 0);
        LampPresses y = Tapes.of("states 3;lamp 0;lamp 1;wire 0 1 by 2;");
        // Both change unlike, by 1 and 2 or 2 and 1; 0 1 comes to 0 1, 1 0, 2 2.
        y.own(1, 1);
        due("53: 2 alone", y.even(), 4);
        due("53: no lamps", new LampPresses().even(), 3);
        due("53: no lamps of five", Tapes.of("states 5;").even(), 31);
    }

    // ---- texts

    private static void promise54() {
        LampPresses x = new LampPresses();
        Check.due("54: no lamps", Tapes.spelled(x), "states 2;");
        String text = "states 5;lamp 3;lamp 0 own 0;lamp 1 goal 4;lamp 4 own 4 goal 1;"
            + "wire 0 2;wire 0 3 by 4;wire 1 2 by 2;wire 2 3;";
        Tapes.told(x, "states 5;lamp 3 own 1 goal 0;lamp 0 own 0;lamp 1 goal 4;lamp 4 own 4 goal 1;"
            + "wire 3 2 by 1;wire 2 1 by 2;wire 3 0 by 4;wire 0 2;");
        Check.due("54: spell", Tapes.spelled(x), text);
        due("54: how many", x.spell(NONE), text.length());
        due("54: the last", x.spell(text.length() - 1), ';');
        due("54: behind it", x.spell(text.length()), -2);
        due("54: far behind it", x.spell(Integer.MAX_VALUE), -2);
        due("54: below NONE", x.spell(-2), NONE);
        due("54: least", x.spell(Integer.MIN_VALUE), NONE);
        x.show(0, 2);
        due("54: behind show", x.spell(14), '2');
        x.undo();
        due("54: behind undo", x.spell(14), '3');
        LampPresses most = Tapes.of("states 5;");
        for (int i = 0; i < 10; i++) {
            most.lamp(4);
            most.own(i, 3);
            most.goal(i, 2);
        }
        for (int i = 0; i < 10; i++) {
            for (int j = 0; j < i; j++) {
                most.wire(i, j, 4);
            }
        }
        due("54: the longest", most.spell(NONE), 9 + 10 * 20 + 45 * 14);
        String longest = Tapes.spelled(most);
        Check.due("54: its end", longest.substring(longest.length() - 28), "wire 7 9 by 4;wire 8 9 by 4;");
    }

    private static void promise55() {
        LampPresses x = Tapes.of("states 5;lamp 1;lamp 0;lamp 2;");
        Check.due("55: report", Tapes.reported(x), "press 0 4;press 2 3;done 7;");
        due("55: how many", x.report(NONE), 27);
        due("55: behind it", x.report(27), -2);
        due("55: far behind it", x.report(Integer.MAX_VALUE), -2);
        due("55: below NONE", x.report(-2), NONE);
        due("55: least", x.report(Integer.MIN_VALUE), NONE);
        x.solve();
        Check.due("55: no press", Tapes.reported(x), "done 0;");
        x.undo();
        Check.due("55: behind undo", Tapes.reported(x), "press 0 4;press 2 3;done 7;");
        x.own(1, 0);
        x.goal(1, 2);
        Check.due("55: no plan", Tapes.reported(x), "none;");
        Check.due("55: no lamps", Tapes.reported(new LampPresses()), "done 0;");
        Check.due("55: many", Tapes.reported(Tapes.of("states 5;" + "lamp 0 own 0;".repeat(7))), "many;");
        LampPresses most = Tapes.of("states 5;" + "lamp 1;".repeat(10));
        StringBuilder longest = new StringBuilder();
        for (int i = 0; i < 10; i++) {
            longest.append("press ").append(i).append(" 4;");
        }
        Check.due("55: the longest", Tapes.reported(most), longest + "done 40;");
        most = Tapes.of("states 3;" + "lamp 1;".repeat(5));
        due("55: ten presses have two digits", Tapes.reported(most).endsWith(";done 10;"), true);
        most = Tapes.of("states 5;lamp 1;lamp 1;lamp 4;");
        due("55: nine have one", Tapes.reported(most).endsWith(";done 9;"), true);
        LampPresses y = Tapes.of("states 5;lamp 0 goal 3;lamp 0 own 4 goal 1;wire 0 1 by 2;");
        Check.due("55: the fewest, not the first", Tapes.reported(y), "press 0 1;press 1 1;done 2;");
    }

    private static void promise56() {
        LampPresses x = Tapes.of("states 3;lamp 1;lamp 0;lamp 2;wire 0 1;wire 1 2;");
        x.press(0, 2);
        x.press(1, 1);
        x.wire(0, 2, 1);
        Tapes.put(x, "lamp 0;");
        int[] due = {3, 3, 3, 3, 7, 3, 1, 2};
        for (int what = 0; what < 8; what++) {
            due("56: count(" + what + ")", x.count(what), due[what]);
        }
        for (int wrong : WRONG) {
            due("56: count(" + wrong + ")", x.count(wrong), NONE);
        }
        due("56: count(8)", x.count(8), NONE);
    }
}
