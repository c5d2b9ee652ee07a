/** Promise 14: source. SOURCES 0 to 11, with a COST (0 to 10000): 0 at first; all hundredths, too. */
public final class Promise14SourceTest {
    private static final Checks P = new Checks("promise 14, source");
    private static final int NONE = OrphanShelf.NONE;
    private static final int[] FAR = {Integer.MIN_VALUE, Integer.MAX_VALUE};

    public static void main(String[] args) {
        nothingAtFirst();
        everySource();
        theLeastAndTheMost();
        toldAgain();
        noSuchSource();
        noSuchCost();
        P.end();
    }

    /** WORKS of all eight KINDS; LAND 0 wants SOURCE 0, LAND 1 wants SOURCE 11. */
    private static void shelf(OrphanShelf x) {
        for (int kind = 0; kind < 8; kind++) {
            x.work(kind, 0, 0, 0, 0, NONE);
        }
        Shelves.law(x, 0, "s0");
        Shelves.law(x, 1, "s11");
        Shelves.law(x, 2, "s0;s11");
    }

    private static void nothingAtFirst() {
        OrphanShelf x = Checks.made(Promise14SourceTest::shelf);
        P.due("the COST of SOURCE 0", x.cheapest(0, 0, NONE), 0);
        P.due("the COST of SOURCE 11", x.cheapest(0, 1, NONE), 0);
        x.source(0, 5);
        x.source(11, 7);
        for (int kind = 0; kind < 8; kind++) {
            P.due("no hundredths of KIND " + kind, x.cheapest(kind, 2, NONE), 12000000);
        }
    }

    private static void everySource() {
        OrphanShelf x = Checks.made(Promise14SourceTest::shelf);
        for (int s = 0; s < 12; s++) {
            P.due("SOURCE " + s, x.source(s, 100 + s), true);
        }
        for (int s = 0; s < 12; s++) {
            Shelves.law(x, 3, s, s, "s" + s);
        }
        for (int s = 0; s < 12; s++) {
            x.now(s);
            P.due("its COST " + s, x.cheapest(0, 3, NONE), (100 + s) * 1000000L);
        }
    }

    private static void theLeastAndTheMost() {
        OrphanShelf x = Checks.made(Promise14SourceTest::shelf);
        P.due("COST 10000", x.source(11, 10000), true);
        P.due("the most", x.cheapest(0, 1, NONE), 10000000000L);
        P.due("COST 1", x.source(11, 1), true);
        P.due("the least but one", x.cheapest(0, 1, NONE), 1000000);
        P.due("COST 0", x.source(11, 0), true);
        P.due("the least", x.cheapest(0, 1, NONE), 0);
        P.due("SOURCE 0", x.source(0, 10000), true);
        P.due("the other one's stays", x.cheapest(0, 1, NONE), 0);
    }

    private static void toldAgain() {
        OrphanShelf x = Checks.made(Promise14SourceTest::shelf);
        x.source(0, 30);
        x.chance(0, 0, 50);
        P.due("again", x.source(0, 20), true);
        P.due("the same again", x.source(0, 20), true);
        P.due("the latest COST", x.cheapest(0, 0, NONE), 20000000);
        x.source(11, 20);
        P.due("hundredths stay", x.cheapest(0, 2, NONE), 30000000);
    }

    private static void told(OrphanShelf x) {
        shelf(x);
        Shelves.source(x, 0, 30, 40);
        Shelves.source(x, 11, 50, 60);
    }

    private static void noSuchSource() {
        for (int s : new int[] {-1, 12, 13, FAR[0], FAR[1]}) {
            P.isFalse("SOURCE " + s, Promise14SourceTest::told, x -> x.source(s, 1));
        }
    }

    private static void noSuchCost() {
        for (int cost : new int[] {-1, 10001, FAR[0], FAR[1]}) {
            P.isFalse("COST " + cost + " of 0", Promise14SourceTest::told, x -> x.source(0, cost));
            P.isFalse("COST " + cost + " of 11", Promise14SourceTest::told, x -> x.source(11, cost));
        }
    }
}
