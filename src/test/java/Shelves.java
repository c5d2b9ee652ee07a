/** Short ways to build a shelf up. */
final class Shelves {
    private static final int NONE = OrphanShelf.NONE;
    /** The bytes that one feed brings. */
    private static final int FEED = 20;

    private Shelves() { }

    static void persons(OrphanShelf x, int n) {
        for (int i = 0; i < n; i++) {
            x.owner(false, i % 4);
        }
    }

    static void firms(OrphanShelf x, int n) {
        for (int i = 0; i < n; i++) {
            x.owner(true, i % 4);
        }
    }

    /** WORKS of KIND 0 and LAND 0 that came out on DAY 0, without MARKS. */
    static void works(OrphanShelf x, int n) {
        for (int i = 0; i < n; i++) {
            x.work(0, 0, 0, 0, 0, NONE);
        }
    }

    /** Feeds a text, its last twenty bytes filled up with zeros: how many calls that took. */
    static int feed(OrphanShelf x, String text) {
        for (int at = 0; at < text.length(); at += FEED) {
            x.feed(four(text, at), four(text, at + 4), four(text, at + 8), four(text, at + 12), four(text, at + 16));
        }
        return (text.length() + FEED - 1) / FEED;
    }

    private static int four(String text, int at) {
        int value = 0;
        for (int i = at; i < at + 4; i++) {
            value = value << 8 | (i < text.length() ? text.charAt(i) & 255 : 0);
        }
        return value;
    }

    static int law(OrphanShelf x, int land, int from, int to, String text) {
        feed(x, text);
        return x.law(land, from, to, text.length());
    }

    /** A LAW that is in FORCE on all DAYS. */
    static int law(OrphanShelf x, int land, String text) {
        return law(x, land, 0, 99999, text);
    }

    /** Feeds SOURCES as bytes. */
    static void feedBytes(OrphanShelf x, int... bytes) {
        StringBuilder text = new StringBuilder();
        for (int b : bytes) {
            text.append((char) b);
        }
        feed(x, text.toString());
    }

    /** A SOURCE with its COST, and its hundredths for WORKS of KIND 0. */
    static void source(OrphanShelf x, int s, int cost, int hundredths) {
        x.source(s, cost);
        x.chance(s, 0, hundredths);
    }
}
