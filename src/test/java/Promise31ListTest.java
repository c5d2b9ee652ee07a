/** Promise 31: list. A WORK is put on the list of a LAND, or of several, once. */
public final class Promise31ListTest {
    private static final Checks P = new Checks("promise 31, list");
    private static final int NONE = OrphanShelf.NONE;
    private static final int[] FAR = {Integer.MIN_VALUE, Integer.MAX_VALUE};

    public static void main(String[] args) {
        severalLands();
        noSuchOnes();
        itIs();
        allWorks();
        P.end();
    }

    private static void severalLands() {
        OrphanShelf x = new OrphanShelf();
        x.work(0, 2, 0, 0, 0, NONE);
        for (int land = 0; land < 4; land++) {
            P.due("not on it yet", x.count(10 + land), 0);
            P.due("the list of LAND " + land, x.list(0, land), true);
            P.due("on it", x.count(10 + land), 1);
        }
    }

    /** WORKS 0 and 1 are on the list of LAND 0, WORK 1 is on that of LAND 1. */
    private static void shelf(OrphanShelf x) {
        Shelves.works(x, 3);
        x.list(0, 0);
        x.list(1, 0);
        x.list(1, 1);
    }

    private static void noSuchOnes() {
        for (int w : new int[] {-1, 3, 79, 80, FAR[0], FAR[1]}) {
            P.isFalse("WORK " + w, Promise31ListTest::shelf, x -> x.list(w, 0));
        }
        for (int land : new int[] {-1, 4, 31, 32, FAR[0], FAR[1]}) {
            P.isFalse("LAND " + land, Promise31ListTest::shelf, x -> x.list(0, land));
        }
    }

    private static void itIs() {
        P.isFalse("the first is", Promise31ListTest::shelf, x -> x.list(0, 0));
        P.isFalse("the second is", Promise31ListTest::shelf, x -> x.list(1, 1));
        OrphanShelf x = Checks.made(Promise31ListTest::shelf);
        P.due("again", x.list(1, 0), false);
        P.due("counted once", x.count(10), 2);
        P.due("on another list it is not", x.list(0, 1), true);
        P.due("another WORK is not", x.list(2, 0), true);
    }

    private static void allWorks() {
        OrphanShelf x = new OrphanShelf();
        Shelves.works(x, 80);
        for (int w = 0; w < 80; w++) {
            P.due("WORK " + w, x.list(w, 3), true);
        }
        P.due("all of them", x.count(13), 80);
        P.due("the last one again", x.list(79, 3), false);
        P.due("none on another", x.count(12), 0);
    }
}
