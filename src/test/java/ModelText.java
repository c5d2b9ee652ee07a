import java.util.ArrayDeque;
import java.util.ArrayList;
import java.util.Deque;
import java.util.List;
import java.util.function.IntUnaryOperator;

/** TEXTS of LAWS for the Model: FAULTS by an automaton, sign by sign; conditions by cutting texts apart. */
final class ModelText {
    private enum Phase { LETTER, NUMBER, BEHIND_NUMBER, PIECE, FACTOR, BEHIND_FACTOR, BEHIND_PIECE, BEHIND_CLAUSE }

    // No byte, as every byte may stand in a TEXT.
    private static final char END = 0xffff;

    private Phase phase = Phase.LETTER;
    private int clauses;
    private char letter;
    private boolean second;
    private int first;
    private int digits;
    private long value;
    private boolean inLaw;
    private boolean right;
    private final Deque<Character> open = new ArrayDeque<>();

    /** The first FAULT of a TEXT as law() answers it; 0 if it has none. */
    static int fault(String text) {
        ModelText automaton = new ModelText();
        for (int at = 0; at <= text.length(); at++) {
            int fault = automaton.next(at < text.length() ? text.charAt(at) : END, at);
            if (fault != 0) {
                return fault;
            }
        }
        return 0;
    }

    private static int fault(int kind, int at) {
        return -1000 * kind - at;
    }

    private int next(char sign, int at) {
        boolean digit = sign >= '0' && sign <= '9';
        if (phase == Phase.NUMBER) {
            if (digit) {
                if (digits == 0) {
                    first = at;
                }
                digits++;
                value = value * 10 + sign - '0';
                return digits == 7 ? fault(2, at) : 0;
            }
            if (digits == 0) {
                return fault(1, at);
            }
            if (inLaw && value > limit()) {
                return fault(3, first);
            }
            phase = inLaw ? Phase.BEHIND_NUMBER : Phase.BEHIND_FACTOR;
        }
        switch (phase) {
            case LETTER:
                if ("saltufpwex".indexOf(sign) < 0) {
                    return fault(1, at);
                }
                clauses++;
                letter = sign;
                second = false;
                number(true);
                return clauses == 13 ? fault(4, at) : 0;
            case BEHIND_NUMBER:
                if (letter == 'x' && !second) {
                    second = true;
                    number(true);
                    return sign == '.' ? 0 : fault(1, at);
                }
                if (letter != 'x' && sign == '(') {
                    phase = Phase.PIECE;
                    return open(sign, at);
                }
                return behindClause(sign, at);
            case PIECE:
                right = false;
                if (sign == '!' || sign == '(') {
                    return open(sign, at);
                }
                return factor(sign, at);
            case FACTOR:
                return factor(sign, at);
            case BEHIND_FACTOR:
                return behindFactor(sign, at);
            case BEHIND_PIECE:
                return behindPiece(sign, at);
            default:
                return behindClause(sign, at);
        }
    }

    private int limit() {
        return switch (letter) {
            case 's' -> 11;
            case 'p' -> 3;
            case 'w' -> 100;
            case 'x' -> second ? 11 : 19;
            default -> 999999;
        };
    }

    private void number(boolean law) {
        inLaw = law;
        digits = 0;
        value = 0;
        phase = Phase.NUMBER;
    }

    private int open(char sign, int at) {
        open.push(sign);
        return open.size() == 7 ? fault(5, at) : 0;
    }

    private int factor(char sign, int at) {
        if (sign >= '0' && sign <= '9') {
            number(false);
            return next(sign, at);
        }
        if (sign == '[') {
            phase = Phase.FACTOR;
            return open(sign, at);
        }
        phase = Phase.BEHIND_FACTOR;
        return "klyzofjd".indexOf(sign) >= 0 ? 0 : fault(1, at);
    }

    private int behindFactor(char sign, int at) {
        boolean bracket = open.peek() == '[';
        if ("+-*/%".indexOf(sign) >= 0) {
            phase = Phase.FACTOR;
            return 0;
        }
        if (bracket) {
            open.pop();
            return sign == ']' ? 0 : fault(1, at);
        }
        if (!right) {
            right = true;
            phase = Phase.FACTOR;
            return "<>=".indexOf(sign) >= 0 ? 0 : fault(1, at);
        }
        return behindPiece(sign, at);
    }

    private int behindPiece(char sign, int at) {
        while (open.peek() == '!') {
            open.pop();
        }
        if (sign == '&' || sign == '|') {
            phase = Phase.PIECE;
            return 0;
        }
        open.pop();
        phase = open.isEmpty() ? Phase.BEHIND_CLAUSE : Phase.BEHIND_PIECE;
        return sign == ')' ? 0 : fault(1, at);
    }

    private int behindClause(char sign, int at) {
        phase = Phase.LETTER;
        return sign == ';' || sign == END ? 0 : fault(1, at);
    }

    /** A CLAUSE of a TEXT without FAULTS; its condition may be empty. */
    record Clause(char letter, int n, int j, String condition) {
        boolean holds(IntUnaryOperator facts) {
            try {
                return condition.isEmpty() || any(condition, facts);
            } catch (ArithmeticException divided) {
                return false;
            }
        }
    }

    static List<Clause> clauses(String text) {
        List<Clause> clauses = new ArrayList<>();
        for (String part : text.split(";")) {
            int cut = part.indexOf('(');
            String head = cut < 0 ? part : part.substring(0, cut);
            String condition = cut < 0 ? "" : part.substring(cut + 1, part.length() - 1);
            String[] numbers = head.substring(1).split("\\.");
            int j = numbers.length > 1 ? Integer.parseInt(numbers[1]) : -1;
            clauses.add(new Clause(head.charAt(0), Integer.parseInt(numbers[0]), j, condition));
        }
        return clauses;
    }

    /** Where the last (or first) of some signs stands outside of all brackets; -1: nowhere. */
    private static int outside(String text, String signs, boolean last) {
        int depth = 0;
        int found = -1;
        for (int i = 0; i < text.length(); i++) {
            char sign = text.charAt(i);
            depth += sign == '(' || sign == '[' ? 1 : sign == ')' || sign == ']' ? -1 : 0;
            if (depth == 0 && signs.indexOf(sign) >= 0 && (last || found < 0)) {
                found = i;
            }
        }
        return found;
    }

    private static boolean any(String c, IntUnaryOperator facts) {
        int cut = outside(c, "|", false);
        return cut < 0 ? all(c, facts) : all(c.substring(0, cut), facts) || any(c.substring(cut + 1), facts);
    }

    private static boolean all(String part, IntUnaryOperator facts) {
        int cut = outside(part, "&", false);
        return cut < 0 ? piece(part, facts)
                : piece(part.substring(0, cut), facts) && all(part.substring(cut + 1), facts);
    }

    private static boolean piece(String piece, IntUnaryOperator facts) {
        if (piece.charAt(0) == '!') {
            return !piece(piece.substring(1), facts);
        }
        if (piece.charAt(0) == '(') {
            return any(piece.substring(1, piece.length() - 1), facts);
        }
        int cut = outside(piece, "<>=", false);
        int left = value(piece.substring(0, cut), facts);
        int right = value(piece.substring(cut + 1), facts);
        return switch (piece.charAt(cut)) {
            case '<' -> left < right;
            case '>' -> left > right;
            default -> left == right;
        };
    }

    private static int value(String e, IntUnaryOperator facts) {
        int cut = outside(e, "+-", true);
        cut = cut < 0 ? outside(e, "*/%", true) : cut;
        if (cut < 0) {
            char sign = e.charAt(0);
            if (sign == '[') {
                return value(e.substring(1, e.length() - 1), facts);
            }
            return Character.isDigit(sign) ? Integer.parseInt(e) : facts.applyAsInt(sign);
        }
        int left = value(e.substring(0, cut), facts);
        int right = value(e.substring(cut + 1), facts);
        return switch (e.charAt(cut)) {
            case '+' -> left + right;
            case '-' -> left - right;
            case '*' -> left * right;
            case '/' -> left / right;
            default -> left % right;
        };
    }
}
