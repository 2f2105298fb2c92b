/** Boundary cases of promises 1 to 4 and of the terms that bound a TEXT: a method for each sentence that names one. */
final class BoundariesToldTest {
    private static final int NONE = LampPresses.NONE;
    /** Signs just outside of those that may stand in a TEXT. */
    private static final int[] STRANGE = {0, 9, 11, 13, 31, 33, 47, 58, 60, 64, 65, 90, 91, 96, 123, 127, 128, 138,
        160, 187, 255};
    /** All that a TEXT may have, with no sign more than it needs. */
    private static final String WHOLE = "states 3;lamp 2 own 0 goal 1;lamp 0;lamp 1 goal 2;wire 0 1 by 2;wire 2 1;";
    private static final String WHOLE_SPELLED =
        "states 3;lamp 2 own 0 goal 1;lamp 0;lamp 1 goal 2;wire 0 1 by 2;wire 1 2;";

    private BoundariesToldTest() {
    }

    public static void main(String[] args) {
        Check.sentences(BoundariesToldTest.class, 1, 4);
        Check.end();
    }

    private static void good(String text, String spelled) {
        Run.of(text).dueSpelled("spell behind \"" + text + "\"", spelled);
    }

    private static void fault(String text, int at) {
        Run run = Run.of("states 5;lamp 4;").put(text);
        run.due("text() of \"" + text + "\"", LampPresses::text, -4 - at);
        run.then(LampPresses::text).dueSpelled("spell behind \"" + text + "\"", "states 5;lamp 4;");
    }

    // ---- a new object

    static void promise1TwoStatesAndNoLamps() {
        Run.anew().due("M", x -> x.count(0), 2);
        Run.anew().due("LAMPS", x -> x.count(1), 0);
        Run.anew().due("a state of M less 1", x -> x.lamp(1), 0);
        Run.anew().due("a state of M", x -> x.lamp(2), NONE);
        for (int what = 2; what <= 7; what++) {
            int asked = what;
            Run.anew().due("count(" + what + ")", x -> x.count(asked), 0);
        }
        Run.anew().dueSpelled("spell", "states 2;");
    }

    static void promise1NoActIsTakenWithoutLamps() {
        Run none = Run.anew();
        none.refuses("drop(0)", x -> Run.yes(x.drop(0)), 0);
        none.refuses("wire(0, 1, 1)", x -> x.wire(0, 1, 1), NONE);
        none.refuses("own(0, 0)", x -> x.own(0, 0), NONE);
        none.refuses("goal(0, 1)", x -> x.goal(0, 1), NONE);
        none.refuses("show(0, 1)", x -> x.show(0, 1), NONE);
        none.refuses("press(0, 1)", x -> x.press(0, 1), NONE);
        none.refuses("aim()", LampPresses::aim, NONE);
        none.refuses("solve()", LampPresses::solve, NONE);
        none.refuses("swap(0, 1)", x -> Run.yes(x.swap(0, 1)), 0);
        none.refuses("lift(1)", x -> x.lift(1), NONE);
        none.refuses("scale(2)", x -> x.scale(2), NONE);
        none.refuses("mirror()", LampPresses::mirror, NONE);
        none.refuses("undo()", LampPresses::undo, NONE);
    }

    static void promise1ObjectsHaveNothingInCommon() {
        LampPresses one = new LampPresses();
        LampPresses other = new LampPresses();
        Tapes.told(one, "states 5;lamp 3;");
        one.press(0, 2);
        Tapes.put(one, "x");
        for (int what = 1; what <= 7; what++) {
            Check.due("count(" + what + ") of the other", other.count(what), 0);
        }
        Check.due("M of the other", other.count(0), 2);
        Check.due("undo() of the other", other.undo(), NONE);
    }

    // ---- feed

    private static Run withTape(int length) {
        return Run.anew().put("lamp 1;" + " ".repeat(Math.max(length - 7, 0)) + (length < 7 ? " " : ""))
            .then(x -> x.back(x.count(4) - length));
    }

    static void promise2NoMoreThan500() {
        for (int length : new int[] {0, 1, 20, 460, 461, 478, 479, 480}) {
            withTape(length).due("feed at " + length, x -> x.feed(0, 0, 0, 0, 0), length + 20);
            withTape(length).then(x -> x.feed(0, 0, 0, 0, 0)).due("count(4)", x -> x.count(4), length + 20);
        }
        for (int length : new int[] {481, 482, 490, 499, 500}) {
            withTape(length).refuses("feed at " + length, x -> x.feed(0x78787878, 0, 0, 0, -1), NONE);
        }
    }

    static void promise2TwentyFiveTimesFillTheTape() {
        Run run = Run.anew();
        for (int fed = 20; fed <= 500; fed += 20) {
            run.due("feed to " + fed, x -> x.feed(0x20202020, 0x20202020, 0x20202020, 0x20202020, 0x20202020), fed);
            run = run.then(x -> x.feed(0x20202020, 0x20202020, 0x20202020, 0x20202020, 0x20202020));
        }
        run.refuses("a 26th time", x -> x.feed(0x20202020, 0x20202020, 0x20202020, 0x20202020, 0x20202020), NONE);
        run.refuses("and again", x -> x.feed(0, 0, 0, 0, 0), NONE);
    }

    static void promise2TheHighestOfTheFirstComesFirst() {
        for (int at = 0; at < 20; at++) {
            int[] w = Tapes.fed(" ".repeat(at) + "?" + " ".repeat(19 - at), 0);
            Run.anew().then(x -> x.feed(w[0], w[1], w[2], w[3], w[4]))
                .due("a fault at " + at, LampPresses::text, -4 - at);
        }
    }

    static void promise2BytesOf0To255() {
        for (int sign = 0; sign < 256; sign++) {
            int first = sign << 24 | 0x202020;
            int want = sign == 32 || sign == 10 ? 0 : -4;
            Run.anew().then(x -> x.feed(first, 0x20202020, 0x20202020, 0x20202020, 0x20202020))
                .due("a byte " + sign, LampPresses::text, want);
        }
    }

    static void promise2TheyComeBehindTheTape() {
        Run run = Run.anew().put("lamp 1;la").put("mp 0;").put("wire 0 1;");
        run.due("how many", x -> x.count(4), 23);
        run.then(LampPresses::text).dueSpelled("spell", "states 2;lamp 1;lamp 0;wire 0 1;");
    }

    // ---- back

    static void promise3NotMoreThanItHas() {
        for (int length : new int[] {0, 1, 19, 20, 499, 500}) {
            Run run = withTape(length);
            run.due("back(" + length + ")", x -> x.back(length), 0);
            run.then(x -> x.back(length)).due("none are left", x -> x.count(4), 0);
            run.refuses("back(" + (length + 1) + ")", x -> x.back(length + 1), NONE);
            run.refuses("back(the greatest)", x -> x.back(Integer.MAX_VALUE), NONE);
            if (length > 0) {
                run.due("back(" + (length - 1) + ")", x -> x.back(length - 1), 1);
            }
        }
    }

    static void promise3NotBelow0() {
        for (int length : new int[] {0, 1, 20, 500}) {
            Run run = withTape(length);
            run.refuses("back(-1)", x -> x.back(-1), NONE);
            run.refuses("back(the least)", x -> x.back(Integer.MIN_VALUE), NONE);
            run.refuses("back(0)", x -> x.back(0), length);
        }
    }

    static void promise3TheLastOnesGo() {
        Run run = Run.anew().put("lamp 1;lamp 0;?");
        run.due("back(1)", x -> x.back(1), 14);
        run.then(x -> x.back(1)).due("the fault has gone", LampPresses::text, 2);
        run.then(x -> x.back(8)).due("and a lamp", LampPresses::text, 1);
        run.then(x -> x.back(15)).due("and all", LampPresses::text, 0);
        run.then(x -> x.back(14)).due("one is left", LampPresses::text, -4);
    }

    // ---- text

    static void promise4AnEmptyTape() {
        Run run = Run.of("states 5;lamp 1;lamp 2;wire 0 1;");
        run.due("text()", LampPresses::text, 0);
        run.then(LampPresses::text).dueSpelled("all anew", "states 2;");
        run.told(" \n ").dueSpelled("of blanks", "states 2;");
    }

    static void promise4TheTapeIsEmptyThen() {
        Run good = Run.anew().put("lamp 1;");
        good.due("it has", x -> x.count(4), 7);
        good.then(LampPresses::text).due("it has none", x -> x.count(4), 0);
        good.then(LampPresses::text).due("and tells nothing", LampPresses::text, 0);
        Run bad = Run.anew().put("lamp 1;lamp 2;");
        bad.due("it has", x -> x.count(4), 14);
        bad.then(LampPresses::text).due("it has none behind a FAULT, too", x -> x.count(4), 0);
        bad.then(LampPresses::text).due("and tells nothing", LampPresses::text, 0);
    }

    static void promise4FourLessTheFault() {
        fault("?", 0);
        fault(" ?", 1);
        fault(" ".repeat(498) + "?", 498);
        fault(" ".repeat(499) + "?", 499);
        fault(" ".repeat(493) + "lamp 0", 499);
        fault(" ".repeat(494) + "lamp 0", 500);
        good(" ".repeat(493) + "lamp 0;", "states 2;lamp 0;");
    }

    static void promise4AllElseStaysBehindAFault() {
        Run run = Run.of("states 3;lamp 1;lamp 2 own 2;wire 0 1;").then(x -> x.press(0, 9), x -> x.goal(1, 2),
            x -> x.press(1, 1), LampPresses::solve, x -> x.wire(0, 1, 2));
        for (String text : new String[] {"?", "states 4;", "states 5", "states 5;lamp 4;lamp 4;wire 0 1 by 5;",
            "states 5;" + Nets.lamps(11)}) {
            Check.due("all else stays behind " + text, run.told(text).whole(), run.whole());
        }
    }

    static void promise4ItForgetsActsPressesAndTheBook() {
        Run run = Run.of("states 3;lamp 1;lamp 2;").times(21, x -> x.press(1, 1));
        run.due("acts ahead", x -> x.count(3), 12);
        run.due("presses ahead", x -> x.count(5), 21);
        run.due("entries ahead", x -> x.count(7), 20);
        for (String text : new String[] {"", "states 3;lamp 1;lamp 2;"}) {
            Check.due("as a new one behind \"" + text + "\"", run.told(text).whole(), Run.of(text).whole());
            run.told(text).due("acts", x -> x.count(3), 0);
            run.told(text).due("undo", LampPresses::undo, NONE);
            run.told(text).due("presses", x -> x.count(5), 0);
            run.told(text).due("entries", x -> x.count(7), 0);
            run.told(text).due("no entry", x -> x.book(0, 0), NONE);
        }
        run.told("lamp 1;").then(x -> x.press(0, 1)).due("an act behind it", LampPresses::undo, 0);
    }

    static void promise4StatesAre2Or3Or5() {
        for (int digit = 0; digit <= 9; digit++) {
            String text = "states " + digit + ";";
            if (digit == 2 || digit == 3 || digit == 5) {
                good(text, text);
            } else {
                fault(text, 7);
            }
        }
        good("lamp 1;", "states 2;lamp 1;");
        Run.of("states 5;lamp 4;").told("lamp 1;").dueSpelled("2 without", "states 2;lamp 1;");
        fault("lamp 2;", 5);
    }

    static void promise4StatesInAnotherPlace() {
        good(" \nstates 3;", "states 3;");
        fault("states 3;states 3;", 9);
        fault("states 3; states 5;", 10);
        fault("lamp 1;states 3;", 7);
        fault("states 3;lamp 1;states 3;", 16);
        fault(Nets.lamps(2) + "wire 0 1;states 2;", 23);
        fault("lamp 1 states 3;", 7);
        fault("lamp states 3;", 5);
        fault(";states 3;", 0);
    }

    static void promise4WhatALampShows() {
        for (int m : Nets.STATES) {
            for (int digit = 0; digit <= 9; digit++) {
                String text = "states " + m + ";lamp " + digit + ";";
                if (digit < m) {
                    good(text, text);
                } else {
                    fault(text, 14);
                }
            }
        }
    }

    static void promise4OwnIs0UpToMLess1And1Without() {
        for (int m : Nets.STATES) {
            for (int digit = 0; digit <= 9; digit++) {
                String text = "states " + m + ";lamp 0 own " + digit + ";";
                if (digit < m) {
                    int step = digit;
                    good(text, digit == 1 ? "states " + m + ";lamp 0;" : text);
                    Run.of(text).due("own", x -> x.of(0, 1), step);
                } else {
                    fault(text, 20);
                }
            }
            Run.of("states " + m + ";lamp 0;").due("own, without", x -> x.of(0, 1), 1);
        }
    }

    static void promise4GoalIs0UpToMLess1And0Without() {
        for (int m : Nets.STATES) {
            for (int digit = 0; digit <= 9; digit++) {
                String text = "states " + m + ";lamp 1 goal " + digit + ";";
                if (digit < m) {
                    int state = digit;
                    good(text, digit == 0 ? "states " + m + ";lamp 1;" : text);
                    Run.of(text).due("goal", x -> x.of(0, 2), state);
                } else {
                    fault(text, 21);
                }
                if (digit >= m) {
                    fault("states " + m + ";lamp 1 own 0 goal " + digit + ";", 27);
                }
            }
            Run.of("states " + m + ";lamp 1;").due("goal, without", x -> x.of(0, 2), 0);
        }
    }

    static void promise4WeightIs1UpToMLess1And1Without() {
        for (int m : Nets.STATES) {
            String ahead = "states " + m + ";" + Nets.lamps(2);
            for (int digit = 0; digit <= 9; digit++) {
                String text = ahead + "wire 0 1 by " + digit + ";";
                if (digit >= 1 && digit < m) {
                    int weight = digit;
                    good(text, digit == 1 ? ahead + "wire 0 1;" : text);
                    Run.of(text).due("weight", x -> x.weight(1, 0), weight);
                } else {
                    fault(text, 35);
                }
            }
            Run.of(ahead + "wire 0 1;").due("weight, without", x -> x.weight(0, 1), 1);
        }
    }

    static void promise4An11thLampAtItsWord() {
        for (int n = 0; n <= 10; n++) {
            Run.anew().put(Nets.lamps(n)).due(n + " lamps", LampPresses::text, n);
        }
        fault(Nets.lamps(11), 70);
        fault(Nets.lamps(12), 70);
        fault(Nets.lamps(10) + "\n lamp 0;", 72);
        fault(Nets.lamps(10) + "lamp 7;", 70);
        fault(Nets.lamps(10) + "lamp", 70);
        fault(Nets.lamps(10) + "wire 0 9;lamp 0;", 79);
        good(Nets.lamps(10) + "wire 0 9;", "states 2;" + Nets.lamps(10) + "wire 0 9;");
    }

    static void promise4LampsToldAhead() {
        for (int n = 0; n <= 10; n++) {
            for (int digit = 0; digit <= 9; digit++) {
                if (digit >= n) {
                    fault(Nets.lamps(n) + "wire " + digit + " 0;", 7 * n + 5);
                }
                if (digit >= n && n > 0) {
                    fault(Nets.lamps(n) + "wire 0 " + digit + ";", 7 * n + 7);
                }
                if (digit > 0 && digit < n) {
                    String spelled = "states 2;" + Nets.lamps(n) + "wire 0 " + digit + ";";
                    good(Nets.lamps(n) + "wire 0 " + digit + ";", spelled);
                    good(Nets.lamps(n) + "wire " + digit + " 0;", spelled);
                }
            }
        }
        fault("lamp 0;wire 0 1;lamp 0;", 14);
        fault("wire 0 1;lamp 0;lamp 0;", 5);
        good("lamp 0;lamp 0;wire 0 1;lamp 0;wire 2 0;", "states 2;lamp 0;lamp 0;lamp 0;wire 0 1;wire 0 2;");
    }

    static void promise4TheSecondLampIsTheFirstOne() {
        for (int n = 1; n <= 10; n++) {
            int last = n - 1;
            fault(Nets.lamps(n) + "wire 0 0;", 7 * n + 7);
            fault(Nets.lamps(n) + "wire " + last + " " + last + ";", 7 * n + 7);
        }
        fault("states 3;lamp 0;lamp 0 own 0;wire 1 1 by 2;", 36);
    }

    static void promise4TheSecondLampIsWiredToItAlready() {
        fault(Nets.lamps(3) + "wire 0 1;wire 0 1;", 37);
        fault(Nets.lamps(3) + "wire 0 1;wire 1 0;", 37);
        fault("states 3;" + Nets.lamps(3) + "wire 1 0 by 2;wire 0 1 by 1;", 51);
        good(Nets.lamps(3) + "wire 0 1;wire 0 2;wire 2 1;",
            "states 2;" + Nets.lamps(3) + "wire 0 1;wire 0 2;wire 1 2;");
        // A text that was told earlier has no part in it.
        Run.of(Nets.lamps(2) + "wire 0 1;").put(Nets.lamps(2) + "wire 0 1;").due("a second text", LampPresses::text, 2);
    }

    static void promise4WordsAsFarAsSmallLettersGoOn() {
        fault("lampa 0;", 0);
        fault("lampz 0;", 0);
        fault("lam 0;", 0);
        fault("lamplamp 0;", 0);
        fault("la mp 0;", 0);
        fault("lamp` 0;", 4);
        fault("lamp{ 0;", 4);
        fault("lampA 0;", 4);
        fault("lampZ 0;", 4);
        fault("Lamp 0;", 0);
        fault("lAmp 0;", 0);
        fault("state 3;", 0);
        fault("statess 3;", 0);
        fault("lamp 0 ow 1;", 7);
        fault("lamp 0 owns 1;", 7);
        fault("lamp 0 goa 1;", 7);
        fault("lamp 0 goals 1;", 7);
        fault("lamp 0 owngoal 1;", 7);
        fault(Nets.lamps(2) + "wires 0 1;", 14);
        fault(Nets.lamps(2) + "wir 0 1;", 14);
        fault(Nets.lamps(2) + "wire 0 1 b 1;", 23);
        fault(Nets.lamps(2) + "wire 0 1 bye 1;", 23);
    }

    static void promise4NoOtherWords() {
        for (int at = 0; at < WHOLE.length(); at++) {
            char letter = WHOLE.charAt(at);
            if (!Character.isLetter(letter)) {
                continue;
            }
            int word = at;
            while (word > 0 && Character.isLetter(WHOLE.charAt(word - 1))) {
                word--;
            }
            fault(WHOLE.substring(0, at) + (char) (letter == 'a' ? 'b' : letter - 1) + WHOLE.substring(at + 1), word);
            fault(WHOLE.substring(0, at) + (char) (letter == 'z' ? 'y' : letter + 1) + WHOLE.substring(at + 1), word);
            fault(WHOLE.substring(0, at) + letter + WHOLE.substring(at), word);
            if (Character.isLetter(WHOLE.charAt(at + 1))) {
                fault(WHOLE.substring(0, at) + WHOLE.substring(at + 1), word);
            }
        }
    }

    static void promise4ANumberIsOneDigit() {
        fault("lamp 00;", 6);
        fault("lamp 10;", 6);
        fault("states 22;", 8);
        fault("states 02;", 7);
        fault("lamp 0 own 11;", 12);
        fault("lamp 0 goal 01;", 13);
        fault(Nets.lamps(2) + "wire 00 1;", 20);
        fault(Nets.lamps(2) + "wire 0 11;", 22);
        fault(Nets.lamps(2) + "wire 0 1 by 11;", 27);
        fault(Nets.lamps(10) + "wire 0 10;", 78);
        fault("lamp /;", 5);
        fault("lamp :;", 5);
        fault("lamp -1;", 5);
        fault("lamp +1;", 5);
    }

    static void promise4BlanksAndLineEndsWhereOneLikes() {
        for (int at = 0; at <= WHOLE.length(); at++) {
            boolean insideAWord = at > 0 && at < WHOLE.length()
                && Character.isLetter(WHOLE.charAt(at - 1)) && Character.isLetter(WHOLE.charAt(at));
            if (insideAWord) {
                continue;
            }
            for (String gap : new String[] {" ", "\n", "  ", "\n\n", " \n"}) {
                good(WHOLE.substring(0, at) + gap + WHOLE.substring(at), WHOLE_SPELLED);
            }
        }
        good(WHOLE.replace(' ', '\n'), WHOLE_SPELLED);
    }

    static void promise4OneBlankAtLeastBetweenTwo() {
        for (int at = 0; at < WHOLE.length(); at++) {
            if (WHOLE.charAt(at) != ' ') {
                continue;
            }
            String without = WHOLE.substring(0, at) + WHOLE.substring(at + 1);
            fault(without, at);
            good(WHOLE.substring(0, at) + "\n" + WHOLE.substring(at + 1), WHOLE_SPELLED);
        }
    }

    static void promise4NoOtherSigns() {
        for (int sign : STRANGE) {
            for (int at = 0; at < WHOLE.length(); at++) {
                if (WHOLE.charAt(at) == ' ') {
                    fault(WHOLE.substring(0, at) + (char) sign + WHOLE.substring(at + 1), at);
                }
                if (WHOLE.charAt(at) == ';') {
                    fault(WHOLE.substring(0, at) + (char) sign + WHOLE.substring(at), at);
                    fault(WHOLE.substring(0, at + 1) + (char) sign + WHOLE.substring(at + 1), at + 1);
                }
            }
            fault((char) sign + WHOLE, 0);
        }
    }

    static void promise4TheTextsLengthIfItEndsTooEarly() {
        int told = 0;
        int begins = 0;
        for (int length = 0; length <= WHOLE.length(); length++) {
            String text = WHOLE.substring(0, length);
            boolean cut = length > 0 && length < WHOLE.length()
                && Character.isLetter(WHOLE.charAt(length - 1)) && Character.isLetter(WHOLE.charAt(length));
            if (text.endsWith(";")) {
                told += text.startsWith("lamp", begins) ? 1 : 0;
                begins = length;
            }
            if (length == begins) {
                Run.anew().put(text).due("text() of \"" + text + "\"", LampPresses::text, told);
            } else if (cut) {
                // A WORD that is not whole is none that can stand there.
                fault(text, Math.max(begins, text.lastIndexOf(' ') + 1));
            } else {
                fault(text, length);
                fault(text + " ", length + 1);
                fault(text + "\n\n", length + 2);
            }
        }
    }

    static void promise4OwnThenGoalEachOnceAtMost() {
        good("lamp 0 own 0 goal 1;", "states 2;lamp 0 own 0 goal 1;");
        fault("lamp 0 goal 1 own 0;", 14);
        fault("lamp 0 own 0 own 0;", 13);
        fault("lamp 0 goal 1 goal 1;", 14);
        fault("lamp 0 by 1;", 7);
        fault("lamp own 1;", 5);
        fault("lamp 0 own;", 10);
        fault("lamp 0 goal;", 11);
        fault("lamp 0 own goal 1;", 11);
        fault("lamp 0 1;", 7);
        fault("lamp;", 4);
    }

    static void promise4TwoLampsThenByOnceAtMost() {
        fault(Nets.lamps(2) + "wire;", 18);
        fault(Nets.lamps(2) + "wire 0;", 20);
        fault(Nets.lamps(2) + "wire 0 by 1;", 21);
        fault(Nets.lamps(2) + "wire 0 1 1;", 23);
        fault(Nets.lamps(2) + "wire 0 1 by;", 25);
        fault(Nets.lamps(2) + "wire 0 1 by 1 by 1;", 28);
        fault(Nets.lamps(2) + "wire 0 1 own 1;", 23);
        fault(Nets.lamps(2) + "wire 0 1 goal 1;", 23);
        fault("states 2 3;", 9);
        fault("states;", 6);
        fault("states by 2;", 7);
    }

    static void promise4OneStopBehindEach() {
        fault(";", 0);
        fault("states 2;;", 9);
        fault("lamp 0;;", 7);
        fault("lamp 0;lamp 0;wire 0 1;;", 23);
        fault("lamp 0 lamp 0;", 7);
        fault("states 2 lamp 0;", 9);
        fault("lamp 0,", 6);
        fault("own 1;", 0);
        fault("lamp 0;own 1;", 7);
        fault("by 1;", 0);
        fault("0;", 0);
    }

    static void promise4TheFirstOfSeveralFaults() {
        fault("lamp 7;lamp 8;", 5);
        fault("lamp 0 own 7 goal 8;", 11);
        fault("states 4;lamp 9;?", 7);
        fault(Nets.lamps(2) + "wire 5 6 by 7;", 19);
        fault(Nets.lamps(2) + "wire 0 6 by 7;", 21);
        fault(Nets.lamps(2) + "wire 0 0 by 7;", 21);
        fault("lamp 0 ?;lamp", 7);
    }

    static void promise4HowManyLamps() {
        for (int n = 0; n <= 10; n++) {
            Run.anew().put("states 5;" + Nets.lamps(n)).due("text() of " + n, LampPresses::text, n);
            int want = n;
            Run.of("states 5;" + Nets.lamps(n)).due("count(1)", x -> x.count(1), want);
        }
    }
}
