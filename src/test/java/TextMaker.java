import java.util.Random;

/** Makes TEXTS of LAWS, most of them without a FAULT. */
final class TextMaker {
    private static final String SIGNS = "saltufpwex0123456789;().!&|<>=+-*/%[]klyzofjd q";

    private final Random random;
    private final String letters;

    /** Clauses have letters out of some, which may stand there several times. */
    TextMaker(Random random, String letters) {
        this.random = random;
        this.letters = letters;
    }

    private int below(int n) {
        return random.nextInt(n);
    }

    String law() {
        StringBuilder text = new StringBuilder();
        int clauses = 1 + below(below(12) == 0 ? 13 : 6);
        for (int i = 0; i < clauses; i++) {
            text.append(i == 0 ? "" : ";").append(clause());
        }
        if (below(8) == 0) {
            spoil(text);
        }
        return text.length() > 200 ? text.substring(0, 200) : text.toString();
    }

    private void spoil(StringBuilder text) {
        int at = below(text.length());
        char sign = SIGNS.charAt(below(SIGNS.length()));
        switch (below(4)) {
            case 0:
                text.setCharAt(at, sign);
                break;
            case 1:
                text.insert(at, sign);
                break;
            case 2:
                text.setLength(Math.max(1, at));
                break;
            default:
                text.insert(at, "!([((![".substring(below(7)));
                break;
        }
    }

    private String clause() {
        char letter = letters.charAt(below(letters.length()));
        if (letter == 'x') {
            return "x" + below(below(20) == 0 ? 21 : 5) + "." + below(below(20) == 0 ? 13 : 6);
        }
        String condition = below(2) == 0 ? "" : "(" + any(1) + ")";
        return "" + letter + number(letter) + condition;
    }

    private int number(char letter) {
        switch (letter) {
            case 's': return below(below(40) == 0 ? 13 : 12);
            case 'p': return below(below(40) == 0 ? 5 : 4);
            case 'w': return below(102);
            case 't':
            case 'u': return below(below(30) == 0 ? 1000000 : 4);
            default: return below(below(30) == 0 ? 1000000 : 12);
        }
    }

    private String any(int depth) {
        String text = all(depth);
        for (int i = 0; i < 3 && below(3) == 0; i++) {
            text += "|" + all(depth);
        }
        return text;
    }

    private String all(int depth) {
        String text = piece(depth);
        for (int i = 0; i < 3 && below(3) == 0; i++) {
            text += "&" + piece(depth);
        }
        return text;
    }

    private String piece(int depth) {
        if (depth < 6 && below(7) == 0) {
            return "!" + piece(depth + 1);
        }
        if (depth < 6 && below(7) == 0) {
            return "(" + any(depth + 1) + ")";
        }
        return sum(depth) + "<>=".charAt(below(3)) + sum(depth);
    }

    private String sum(int depth) {
        String text = product(depth);
        for (int i = 0; i < 3 && below(4) == 0; i++) {
            text += "+-".charAt(below(2)) + product(depth);
        }
        return text;
    }

    private String product(int depth) {
        String text = factor(depth);
        for (int i = 0; i < 3 && below(4) == 0; i++) {
            text += "*/%".charAt(below(3)) + factor(depth);
        }
        return text;
    }

    private String factor(int depth) {
        if (depth < 6 && below(8) == 0) {
            return "[" + sum(depth + 1) + "]";
        }
        if (below(3) == 0) {
            return String.valueOf(below(below(10) == 0 ? 1000000 : 4));
        }
        return String.valueOf("kkllyzooffjd".charAt(below(12)));
    }
}
