import java.util.ArrayDeque;
import java.util.Deque;
import java.util.HashSet;
import java.util.List;
import java.util.Set;

/**
 * The FAULTS of a text, found without descent: one state, a stack for the parentheses, and for
 * each token what may stand there.
 */
final class SlowFaults {
    private static final List<String> SIDES = List.of("north", "south", "neutral");
    private static final List<String> PARTS = List.of("soprano", "alto", "tenor", "bass");
    private static final Set<String> TRUCE = Set.of("day", "sung", "own", "other", "fallen", "can");
    private static final Set<String> AIM = Set.of("skill", "part", "singer", "tone");

    private final String text;
    private String state = "line";
    private int singers;
    private int pieces;
    private int low;
    private int notes;
    private boolean every;
    private Set<String> rows = new HashSet<>();
    private final Set<String> rules = new HashSet<>();
    private String kind = "";
    private int nots;
    private boolean exprBegins;
    private boolean tested;
    private final Deque<Boolean> open = new ArrayDeque<>();

    int fault;
    int place = -1;

    SlowFaults(String text) {
        this.text = text;
        int at = 0;
        while (at < text.length() && fault == 0) {
            if (text.charAt(at) == ' ' || text.charAt(at) == '\n') {
                at++;
                continue;
            }
            int end = at + 1;
            while (end < text.length() && sort(at) < 2 && sort(end) == sort(at)) {
                end++;
            }
            fault = take(text.substring(at, end));
            place = fault == 0 ? -1 : at;
            at = end;
        }
        if (fault == 0 && !state.equals("line")) {
            fault = 1;
            place = text.length();
        }
    }

    private int sort(int at) {
        char c = text.charAt(at);
        return c >= 'a' && c <= 'z' ? 0 : c >= '0' && c <= '9' ? 1 : 2;
    }

    private static boolean isNumber(String t) {
        return t.charAt(0) >= '0' && t.charAt(0) <= '9';
    }

    private static boolean isWord(String t) {
        return t.charAt(0) >= 'a' && t.charAt(0) <= 'z';
    }

    private int go(String to) {
        state = to;
        return 0;
    }

    private int number(String t, int least, int most, String to) {
        if (!isNumber(t)) {
            return 1;
        }
        if (t.length() > 4 || Integer.parseInt(t) < least || Integer.parseInt(t) > most) {
            return 2;
        }
        return go(to);
    }

    private int take(String t) {
        switch (state) {
            case "line": return line(t);
            case "end": return t.equals(";") ? go("line") : 1;
            case "part": return PARTS.contains(t) ? go("lowest") : 1;
            case "lowest": {
                int f = number(t, 0, 48, "highest");
                low = f == 0 ? Integer.parseInt(t) : 0;
                return f;
            }
            case "highest": return number(t, low, 48, "skill");
            case "skill": return number(t, 0, 9, "end");
            case "need": return number(t, 1, 4, "note");
            case "note":
                notes = 1;
                return number(t, 0, 48, "more");
            case "more":
                if (t.equals(";")) {
                    return go("line");
                }
                if (isNumber(t) && notes == 12) {
                    return 2;
                }
                notes++;
                return number(t, 0, 48, "more");
            case "every": return number(t, 1, 9, "end");
            case "side":
                if (!t.equals("north") && !t.equals("south")) {
                    return 1;
                }
                if (!rules.add(kind + t)) {
                    return 5;
                }
                exprBegins = true;
                nots = 0;
                tested = false;
                return go("operand");
            case "operand": return operand(t, true);
            case "term": return operand(t, false);
            default: return behind(t);
        }
    }

    private int line(String t) {
        if (SIDES.contains(t)) {
            singers++;
            return singers > 14 ? 2 : go("part");
        }
        if (PARTS.contains(t)) {
            return pieces == 0 ? 1 : !rows.add(t) ? 4 : go("need");
        }
        switch (t) {
            case "piece":
                pieces++;
                rows = new HashSet<>();
                return pieces > 5 ? 2 : go("end");
            case "every":
                if (every) {
                    return 5;
                }
                every = true;
                return go("every");
            case "truce": case "aim":
                kind = t;
                return go("side");
            default: return 1;
        }
    }

    private int operand(String t, boolean notMay) {
        boolean begins = exprBegins;
        exprBegins = false;
        if (!isNumber(t) && !isWord(t) && !t.equals("(")) {
            return 1;
        }
        if (begins && open.size() >= 6) {
            return 2;
        }
        if (t.equals("(")) {
            open.push(tested);
            tested = false;
            exprBegins = true;
            nots = 0;
            return go("operand");
        }
        if (t.equals("not") && notMay) {
            nots++;
            return nots > 6 ? 2 : go("operand");
        }
        if (isNumber(t)) {
            return t.length() > 4 ? 2 : go("behind");
        }
        return (kind.equals("truce") ? TRUCE : AIM).contains(t) ? go("behind") : 3;
    }

    private int behind(String t) {
        switch (t) {
            case "or": case "and":
                tested = false;
                nots = 0;
                return go("operand");
            case "<": case "=":
                if (tested) {
                    return 1;
                }
                tested = true;
                return go("term");
            case "+": case "-": case "*": case "/": return go("term");
            case ")":
                if (open.isEmpty()) {
                    return 1;
                }
                tested = open.pop();
                return 0;
            case ";": return open.isEmpty() ? go("line") : 1;
            default: return 1;
        }
    }
}
