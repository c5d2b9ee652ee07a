/** What all tests share: answers that are due, and short ways to build a shelf. */
final class Checks {
    private final String title;
    private int asked;
    private int wrong;

    Checks(String title) {
        this.title = title;
    }

    void due(String call, long got, long want) {
        asked++;
        if (got != want) {
            wrong++;
            System.out.println(title + ": " + call + " answered " + got + ", due is " + want);
        }
    }

    void due(String call, boolean got, boolean want) {
        due(call, got ? 1 : 0, want ? 1 : 0);
    }

    int wrong() {
        return wrong;
    }

    /** Tells how it went, and ends the test with exit code 1 if an answer was wrong. */
    void end() {
        System.out.println(title + ": " + asked + " answers, " + wrong + " wrong");
        if (wrong != 0) {
            System.exit(1);
        }
    }

    /** Feeds a text (its last twenty bytes filled up with zeros). */
    static void feed(OrphanShelf x, String text) {
        for (int at = 0; at < text.length(); at += 20) {
            x.feed(four(text, at), four(text, at + 4), four(text, at + 8), four(text, at + 12), four(text, at + 16));
        }
    }

    private static int four(String text, int at) {
        int value = 0;
        for (int i = at; i < at + 4; i++) {
            value = value << 8 | (i < text.length() ? text.charAt(i) & 255 : 0);
        }
        return value;
    }

    static int law(OrphanShelf x, int land, int from, int to, String text) {
        feed(x, text);
        return x.law(land, from, to, text.length());
    }

    /** A LAW that is in force for ever. */
    static int law(OrphanShelf x, int land, String text) {
        return law(x, land, 0, 99999, text);
    }

    /** Feeds SOURCES as bytes. */
    static void feedBytes(OrphanShelf x, int... bytes) {
        StringBuilder text = new StringBuilder();
        for (int b : bytes) {
            text.append((char) b);
        }
        feed(x, text.toString());
    }
}
