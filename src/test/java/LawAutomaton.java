import java.util.ArrayDeque;
import java.util.Deque;

/**
 * Which sign of a TEXT may follow on which, with what is open on a stack: the grammar seen from its signs, while the
 * class reads it by its rules.
 */
final class LawAutomaton {
    private enum Due { CLAUSE, FACTOR, PIECE, BEHIND_FACTOR, BEHIND_PIECE, BEHIND_CLAUSE }

    private final Deque<Character> open = new ArrayDeque<>();
    private Due due = Due.CLAUSE;
    private boolean inCondition;
    private boolean compared;
    private int digits;
    private int clauses;

    /** How many CLAUSES, or the first FAULT: -1000 times its number, less its place. */
    static int read(String text) {
        LawAutomaton a = new LawAutomaton();
        for (int at = 0; at < text.length(); at++) {
            int fault = a.take(text.charAt(at));
            if (fault > 0) {
                return -1000 * fault - at;
            }
        }
        return a.due == Due.BEHIND_CLAUSE ? a.clauses : -1000 - text.length();
    }

    private static boolean among(char sign, String signs) {
        return signs.indexOf(sign) >= 0;
    }

    private int take(char sign) {
        switch (due) {
            case CLAUSE:
                return takeClauseLetter(sign);
            case FACTOR:
                return takeFactor(sign);
            case PIECE:
                return sign == '(' || sign == '!' ? opened(sign) : takeFactor(sign);
            case BEHIND_FACTOR:
                return takeBehindFactor(sign);
            case BEHIND_PIECE:
                return takeBehindPiece(sign);
            default:
                due = Due.CLAUSE;
                return sign == ';' ? 0 : 1;
        }
    }

    private int takeClauseLetter(char sign) {
        if (!among(sign, "gfacoq")) {
            return 1;
        }
        due = Due.FACTOR;
        inCondition = false;
        return clauses == 14 ? 4 : 0;
    }

    private int opened(char sign) {
        open.push(sign);
        return open.size() > 6 ? 5 : 0;
    }

    private int takeFactor(char sign) {
        if (sign == '[') {
            due = Due.FACTOR;
            return opened(sign);
        }
        digits = among(sign, "0123456789") ? 1 : 0;
        due = Due.BEHIND_FACTOR;
        return digits == 1 || among(sign, "kyxlsnjwrpdtmb") ? 0 : 1;
    }

    private int takeBehindFactor(char sign) {
        if (digits > 0 && among(sign, "0123456789")) {
            digits++;
            return digits > 5 ? 2 : 0;
        }
        digits = 0;
        if (among(sign, "+-*/%")) {
            due = Due.FACTOR;
            return 0;
        }
        if (!open.isEmpty() && open.peek() == '[') {
            open.pop();
            return sign == ']' ? 0 : 1;
        }
        if (!inCondition) {
            inCondition = true;
            compared = false;
            due = Due.PIECE;
            return sign == '(' ? opened(sign) : 1;
        }
        if (!compared) {
            compared = true;
            due = Due.FACTOR;
            return among(sign, "<>=") ? 0 : 1;
        }
        return takeBehindPiece(sign);
    }

    private int takeBehindPiece(char sign) {
        while (!open.isEmpty() && open.peek() == '!') {
            open.pop();
        }
        compared = false;
        if (sign == '&' || sign == '|') {
            due = Due.PIECE;
            return 0;
        }
        if (sign != ')' || open.isEmpty()) {
            return 1;
        }
        open.pop();
        due = Due.BEHIND_PIECE;
        if (open.isEmpty()) {
            due = Due.BEHIND_CLAUSE;
            clauses++;
        }
        return 0;
    }
}
