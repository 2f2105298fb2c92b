import java.util.ArrayList;
import java.util.List;
import java.util.regex.Matcher;
import java.util.regex.Pattern;

/**
 * The fault of a text, by trying which tokens can come next: each state of the grammar is a pattern
 * of what stood in the clause so far.
 */
final class SlowReader {
    private static final Pattern TOKEN = Pattern.compile("[a-z]+|[^ \\n]", Pattern.DOTALL);
    private static final Pattern CLAUSE_START = Pattern.compile(
        "(states( N( ;)?)?)|(lamp( N( own N)?( goal N)?( own| goal)?( ;)?)?)|(wire( N( N( by( N)?)?( ;)?)?)?)");

    private SlowReader() {
    }

    static int fault(String text) {
        Matcher tokens = TOKEN.matcher(text);
        List<String> clause = new ArrayList<>();
        List<int[]> wires = new ArrayList<>();
        int m = 2;
        int lamps = 0;
        int clauses = 0;
        int lastEnd = NONE;
        boolean lastSpelled = false;
        while (tokens.find()) {
            String token = tokens.group();
            int at = tokens.start();
            boolean spelled = token.matches("[a-z]+|[0-9]");
            if (spelled && lastSpelled && at == lastEnd) {
                return at;
            }
            lastEnd = tokens.end();
            lastSpelled = spelled;
            clause.add(token);
            if (!standsBy(clause) || !inBounds(clause, m, lamps, clauses, wires)) {
                return at;
            }
            if (token.equals(";")) {
                String first = clause.get(0);
                if (first.equals("states")) {
                    m = Integer.parseInt(clause.get(1));
                } else if (first.equals("lamp")) {
                    lamps++;
                } else {
                    wires.add(new int[] {Integer.parseInt(clause.get(1)), Integer.parseInt(clause.get(2))});
                }
                clauses++;
                clause.clear();
            }
        }
        return clause.isEmpty() ? NONE : text.length();
    }

    private static final int NONE = -1;

    private static boolean standsBy(List<String> clause) {
        String shape = String.join(" ", clause).replaceAll("[0-9]", "N");
        return CLAUSE_START.matcher(shape).matches()
            && !shape.matches("lamp N.*own.*own.*|lamp N.*goal.*goal.*|lamp N.*goal.*own.*|.*(own|goal|by) ;");
    }

    private static boolean inBounds(List<String> clause, int m, int lamps, int clauses, List<int[]> wires) {
        String first = clause.get(0);
        String last = clause.get(clause.size() - 1);
        if (clause.size() == 1) {
            return first.equals("states") ? clauses == 0 : !first.equals("lamp") || lamps < 10;
        }
        if (!last.matches("[0-9]")) {
            return true;
        }
        int n = Integer.parseInt(last);
        if (first.equals("states")) {
            return n == 2 || n == 3 || n == 5;
        }
        if (first.equals("lamp")) {
            return n < m;
        }
        if (clause.size() == 5) {
            return n >= 1 && n < m;
        }
        if (n >= lamps) {
            return false;
        }
        if (clause.size() == 2) {
            return true;
        }
        int one = Integer.parseInt(clause.get(1));
        return n != one && wires.stream().noneMatch(w -> w[0] == one && w[1] == n || w[0] == n && w[1] == one);
    }
}
