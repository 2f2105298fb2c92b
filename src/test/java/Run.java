import java.util.ArrayList;
import java.util.List;

/**
 * A run of calls that is made anew on a new object whenever something is asked behind it. So all can be asked,
 * and what undo would bring back, and no object gets more than the 512 calls for which the document speaks.
 */
final class Run {
    /** One call; a boolean counts 1 or 0. */
    interface Call {
        long on(LampPresses x);
    }

    private static final int NONE = LampPresses.NONE;
    private static final int MOST_CALLS = 512;
    private static final int ASKED_AT_ONCE = 100;
    private static final int BOOK_ENTRIES = 20;

    private final List<Call> calls;

    private Run(List<Call> calls) {
        this.calls = calls;
    }

    static Run anew() {
        return new Run(new ArrayList<>());
    }

    static Run of(String text) {
        return anew().told(text);
    }

    static long yes(boolean answer) {
        return answer ? 1 : 0;
    }

    Run then(Call... more) {
        List<Call> all = new ArrayList<>(calls);
        all.addAll(List.of(more));
        return new Run(all);
    }

    Run times(int n, Call call) {
        Run run = this;
        for (int i = 0; i < n; i++) {
            run = run.then(call);
        }
        return run;
    }

    Run put(String text) {
        Run run = this;
        for (int from = 0; from < text.length(); from += 20) {
            int[] w = Tapes.fed(text, from);
            run = run.then(x -> x.feed(w[0], w[1], w[2], w[3], w[4]));
        }
        int over = (20 - text.length() % 20) % 20;
        return over == 0 ? run : run.then(x -> x.back(over));
    }

    Run told(String text) {
        return put(text).then(LampPresses::text);
    }

    // ---- what is asked behind the run

    private LampPresses made() {
        LampPresses x = new LampPresses();
        for (Call call : calls) {
            call.on(x);
        }
        return x;
    }

    long ask(Call call) {
        return call.on(made());
    }

    void due(String what, Call call, long want) {
        Check.due(what, ask(call), want);
    }

    /** The call answers so, and behind it nothing has changed: what can be asked, the tape, what undo brings back. */
    void refuses(String what, Call call, long want) {
        due(what, call, want);
        leaves(what, call);
    }

    void leaves(String what, Call call) {
        Check.due(what + ": all stays", then(call).whole(), whole());
        List<Call> questions = questions();
        for (int from = 0; from < questions.size(); from += ASKED_AT_ONCE) {
            List<Call> some = questions.subList(from, Math.min(from + ASKED_AT_ONCE, questions.size()));
            LampPresses x = made();
            String ahead = answers(x, some);
            call.on(x);
            Check.due(what + ": answers stay", answers(x, some), ahead);
        }
    }

    void dueSpelled(String what, String want) {
        Check.due(what, spelled(), want);
    }

    void dueReported(String what, String want) {
        Check.due(what, written(LampPresses::report), want);
    }

    String spelled() {
        return written(LampPresses::spell);
    }

    private interface Text {
        int sign(LampPresses x, int i);
    }

    private String written(Text text) {
        StringBuilder all = new StringBuilder();
        int atOnce = MOST_CALLS - calls.size() - 1;
        int length = (int) ask(x -> text.sign(x, NONE));
        while (all.length() < length) {
            LampPresses x = made();
            for (int i = 0; i < atOnce && all.length() < length; i++) {
                all.append((char) text.sign(x, all.length()));
            }
        }
        return all.toString();
    }

    /** All that lives in the object: as it is, as the tape would tell it, and as each undo would bring it back. */
    String whole() {
        StringBuilder all = new StringBuilder(seen());
        Run read = then(LampPresses::text);
        all.append("\ntape ").append(ask(LampPresses::text)).append(' ').append(read.seen());
        Run earlier = this;
        for (long left = ask(x -> x.count(3)); left > 0; left--) {
            earlier = earlier.then(LampPresses::undo);
            all.append("\nundo ").append(earlier.seen());
        }
        return all.toString();
    }

    private String seen() {
        StringBuilder all = new StringBuilder(spelled());
        LampPresses x = made();
        for (int what = 0; what < 8; what++) {
            all.append(' ').append(x.count(what));
        }
        return all.append(booked()).toString();
    }

    /** PRESSED and the BOOK, and one entry more than it may have. */
    String booked() {
        LampPresses x = made();
        StringBuilder all = new StringBuilder(" pressed ").append(x.count(5)).append(" book ").append(x.count(7));
        for (int k = 0; k <= BOOK_ENTRIES; k++) {
            all.append(' ').append(x.book(k, 0)).append(',').append(x.book(k, 1));
        }
        return all.toString();
    }

    private static String answers(LampPresses x, List<Call> questions) {
        StringBuilder all = new StringBuilder();
        for (Call question : questions) {
            all.append(question.on(x)).append(' ');
        }
        return all.toString();
    }

    private static List<Call> questions() {
        List<Call> all = new ArrayList<>(List.of(LampPresses::rank, LampPresses::quiet, LampPresses::plans,
            LampPresses::alones, LampPresses::off, LampPresses::parts, LampPresses::hardest, LampPresses::ways,
            LampPresses::hub));
        all.addAll(List.of(LampPresses::deepest, LampPresses::mend, LampPresses::even,
            x -> x.fewest(NONE), x -> x.sparest(NONE), x -> x.greedy(0), x -> x.greedy(1)));
        for (int i = -1; i < 10; i++) {
            addQuestionsOf(all, i);
        }
        for (int i = 0; i < 25; i++) {
            int at = i;
            all.addAll(List.of(x -> x.level(at), x -> x.levelOf(at), x -> x.report(at), x -> x.spell(at),
                x -> x.base(at / 5, at % 5), x -> x.weight(at / 5, at % 5), x -> x.distance(at / 5, at % 5),
                x -> x.same(at / 5, at % 5), x -> x.after(at / 5, at % 5)));
        }
        return all;
    }

    private static void addQuestionsOf(List<Call> all, int i) {
        for (int what = 0; what < 6; what++) {
            int asked = what;
            all.add(x -> x.of(i, asked));
        }
        all.addAll(List.of(x -> x.plan(i), x -> x.fewest(i), x -> x.fixed(i), x -> x.alone(i), x -> x.sparest(i)));
        all.addAll(List.of(x -> x.cycle(i), x -> x.far(i), x -> x.without(i), x -> x.part(i), x -> x.only(i)));
        all.addAll(List.of(x -> x.byOwn(i, 0), x -> x.byOwn(i, 1), x -> x.byWire(0, i, 0), x -> x.byWire(i, 1, 1)));
    }
}
