/** Promise 13: free. Surely if the latest is ahead of the DAY, surely not if the earliest is not, else maybe. */
public final class Promise13FreeTest {
    private static final Checks P = new Checks("promise 13, free");
    private static final int NONE = OrphanShelf.NONE;
    private static final int[] FAR = {Integer.MIN_VALUE, Integer.MAX_VALUE};

    public static void main(String[] args) {
        theEarliestAndTheLatest();
        oneDayAlone();
        thereIsNone();
        lawsInForceThen();
        asKnown();
        noSuchOnes();
        P.end();
    }

    private static void shelf(OrphanShelf x) {
        x.work(0, 0, 100, 200, 0, NONE);
        x.work(0, 0, 100, 100, 0, NONE);
        Shelves.law(x, 0, 0, 99998, "u1");
        Shelves.law(x, 1, "u0");
        Shelves.law(x, 2, "t1");
    }

    private static void theEarliestAndTheLatest() {
        OrphanShelf x = Checks.made(Promise13FreeTest::shelf);
        int[] days = {0, 464, 465, 466, 564, 565, 566, 99998};
        int[] free = {0, 0, 0, 2, 2, 2, 1, 1};
        for (int i = 0; i < days.length; i++) {
            P.due("on DAY " + days[i], x.free(0, 0, days[i], 0), free[i]);
        }
    }

    private static void oneDayAlone() {
        OrphanShelf x = Checks.made(Promise13FreeTest::shelf);
        P.due("on it", x.free(1, 1, 100, 0), 0);
        P.due("behind it", x.free(1, 1, 101, 0), 1);
        P.due("ahead of it", x.free(1, 1, 99, 0), 0);
    }

    private static void thereIsNone() {
        OrphanShelf x = Checks.made(Promise13FreeTest::shelf);
        P.due("no LAW there", x.free(0, 3, 99999, 0), 0);
        P.due("no PERSONS", x.free(0, 2, 99999, 0), 0);
        Shelves.persons(x, 1);
        x.share(0, 0, 10);
        P.due("one who lives still", x.free(0, 2, 99999, 99999), 0);
        x.now(10);
        x.died(0, 5, 10);
        P.due("that one's term", x.free(0, 2, 99999, 99999), 1);
        P.due("maybe", x.free(0, 2, 371, 99999), 2);
        P.due("surely not", x.free(0, 2, 370, 99999), 0);
    }

    private static void lawsInForceThen() {
        OrphanShelf x = Checks.made(Promise13FreeTest::shelf);
        P.due("the LAW's last DAY", x.free(0, 0, 99998, 0), 1);
        P.due("no LAW any more", x.free(0, 0, 99999, 0), 0);
    }

    private static void asKnown() {
        OrphanShelf x = new OrphanShelf();
        Shelves.persons(x, 1);
        x.work(0, 0, 0, 10, 0, NONE);
        x.share(0, 0, 10);
        Shelves.law(x, 0, "u1;u2(f=1)");
        x.now(800);
        x.look(0, 0, 300, 0);
        P.due("not free, as KNOWN", x.free(0, 0, 500, 800), 0);
        P.due("free, as KNOWN the DAY ahead", x.free(0, 0, 500, 799), 1);
        P.due("maybe, as KNOWN then", x.free(0, 0, 370, 799), 2);
        P.due("not maybe, as KNOWN now", x.free(0, 0, 370, 800), 0);
        Shelves.law(x, 1, "t1");
        x.died(0, 10, 20);
        x.now(900);
        x.died(0, 15, 400);
        P.due("the death is not KNOWN yet", x.free(0, 1, 99999, 799), 0);
        P.due("nor ahead of that", x.free(0, 1, 500, 0), 0);
        P.due("KNOWN: surely", x.free(0, 1, 386, 800), 1);
        P.due("KNOWN: maybe", x.free(0, 1, 385, 800), 2);
        P.due("KNOWN: maybe still", x.free(0, 1, 376, 899), 2);
        P.due("KNOWN: surely not", x.free(0, 1, 375, 899), 0);
        P.due("the latest telling: maybe", x.free(0, 1, 386, 900), 2);
        P.due("the latest telling: surely not", x.free(0, 1, 380, 900), 0);
        P.due("the latest telling: surely", x.free(0, 1, 766, 900), 1);
    }

    private static void noSuchOnes() {
        for (int w : new int[] {-1, 2, 79, 80, FAR[0], FAR[1]}) {
            P.isNone("WORK " + w, Promise13FreeTest::shelf, x -> x.free(w, 0, 9, 9));
        }
        for (int land : new int[] {-1, 4, FAR[0], FAR[1]}) {
            P.isNone("LAND " + land, Promise13FreeTest::shelf, x -> x.free(0, land, 9, 9));
        }
        for (int day : new int[] {-1, 100000, FAR[0], FAR[1]}) {
            P.isNone("DAY " + day, Promise13FreeTest::shelf, x -> x.free(0, 0, day, 9));
            P.isNone("as KNOWN on " + day, Promise13FreeTest::shelf, x -> x.free(0, 0, 9, day));
        }
    }
}
