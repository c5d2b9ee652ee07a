/** Promise 15: chance. In a SOURCE an owner of a KIND (0 to 7) is found with so many hundredths (0 to 100). */
public final class Promise15ChanceTest {
    private static final Checks P = new Checks("promise 15, chance");
    private static final int NONE = OrphanShelf.NONE;
    private static final int[] FAR = {Integer.MIN_VALUE, Integer.MAX_VALUE};

    public static void main(String[] args) {
        theLeastAndTheMost();
        everySourceAndKind();
        toldAgain();
        noSuchOnes();
        P.end();
    }

    /** WORKS of all eight KINDS; LAND 0 wants SOURCES 0 and 11, of which 0 is the cheaper one. */
    private static void shelf(OrphanShelf x) {
        for (int kind = 0; kind < 8; kind++) {
            x.work(kind, 0, 0, 0, 0, NONE);
        }
        x.source(0, 100);
        x.source(11, 1000);
        Shelves.law(x, 0, "s0;s11");
    }

    private static long expected(int hundredths) {
        return 100 * 1000000L + 1000 * 10000L * (100 - hundredths);
    }

    private static void theLeastAndTheMost() {
        OrphanShelf x = Checks.made(Promise15ChanceTest::shelf);
        for (int part : new int[] {1, 99, 100, 0}) {
            P.due(part + " hundredths", x.chance(0, 7, part), true);
            P.due("what is behind it", x.cheapest(7, 0, NONE), expected(part));
            P.due("of another KIND", x.cheapest(6, 0, NONE), expected(0));
        }
    }

    private static void everySourceAndKind() {
        for (int kind = 0; kind < 8; kind++) {
            OrphanShelf x = new OrphanShelf();
            for (int k = 0; k < 8; k++) {
                x.work(k, 0, 0, 0, 0, NONE);
            }
            for (int s = 0; s < 12; s++) {
                P.due("SOURCE " + s + ", KIND " + kind, x.chance(s, kind, s + 1), true);
                x.source(s, s == 11 ? 5000 : 1);
            }
            // On each DAY another SOURCE is wanted beside the dear one, ahead of which it comes.
            for (int s = 0; s < 11; s++) {
                Shelves.law(x, 0, s, s, "s" + s + ";s11");
            }
            for (int s = 0; s < 11; s++) {
                x.now(s);
                long left = 1000000 / 100 * (99 - s);
                P.due("SOURCE " + s + " first", x.cheapest(kind, 0, NONE), 1000000 + 5000 * left);
                P.due("of another KIND", x.cheapest((kind + 1) % 8, 0, NONE), 5001 * 1000000L);
            }
        }
    }

    private static void toldAgain() {
        OrphanShelf x = Checks.made(Promise15ChanceTest::shelf);
        x.chance(0, 0, 80);
        P.due("again", x.chance(0, 0, 30), true);
        P.due("the latest", x.cheapest(0, 0, NONE), expected(30));
        P.due("nothing", x.chance(0, 0, 0), true);
        P.due("none any more", x.cheapest(0, 0, NONE), expected(0));
    }

    private static void told(OrphanShelf x) {
        shelf(x);
        for (int kind = 0; kind < 8; kind++) {
            x.chance(0, kind, 20 + kind);
            x.chance(11, kind, 40 + kind);
        }
    }

    private static void noSuchOnes() {
        for (int s : new int[] {-1, 12, 13, FAR[0], FAR[1]}) {
            P.isFalse("SOURCE " + s, Promise15ChanceTest::told, x -> x.chance(s, 0, 1));
        }
        for (int kind : new int[] {-1, 8, 9, FAR[0], FAR[1]}) {
            P.isFalse("KIND " + kind, Promise15ChanceTest::told, x -> x.chance(0, kind, 1));
            P.isFalse("KIND " + kind + " in the last", Promise15ChanceTest::told, x -> x.chance(11, kind, 1));
        }
        for (int part : new int[] {-1, 101, FAR[0], FAR[1]}) {
            P.isFalse(part + " hundredths", Promise15ChanceTest::told, x -> x.chance(0, 0, part));
        }
    }
}
