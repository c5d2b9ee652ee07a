/** Promise 35: leave. Of a LEAVE the LIBRARY, WORK, LAND, use, DAY, fee, its end (NONE: none yet), whether FREE. */
public final class Promise35LeaveTest {
    private static final Checks P = new Checks("promise 35, leave");
    private static final int NONE = OrphanShelf.NONE;
    private static final int[] FAR = {Integer.MIN_VALUE, Integer.MAX_VALUE};

    public static void main(String[] args) {
        allOfOne();
        theLeast();
        freeOnes();
        itsEnd();
        itStaysAsItWasGiven();
        noSuchLeave();
        others();
        P.end();
    }

    private static void leave(OrphanShelf x, String at, int k, int... due) {
        for (int what = 0; what < due.length; what++) {
            P.due(at + ": " + what, x.leave(k, what), due[what]);
        }
    }

    private static void shelf(OrphanShelf x) {
        Shelves.persons(x, 1);
        Shelves.works(x, 2);
        x.share(1, 0, 10);
        x.now(100);
        Shelves.law(x, 3, "p0;p3;f123;e7");
        x.ask(8, 1, 3, 3);
    }

    private static void allOfOne() {
        OrphanShelf x = Checks.made(Promise35LeaveTest::shelf);
        leave(x, "the first", 0, 8, 1, 3, 3, 100, 123, 107, 0);
        x.now(99999);
        P.due("on the last DAY", x.ask(9, 0, 3, 0), 1);
        leave(x, "the second", 1, 9, 0, 3, 0, 99999, 123, 100006, 0);
        leave(x, "the first still", 0, 8, 1, 3, 3, 100, 123, 107, 0);
    }

    private static void theLeast() {
        OrphanShelf x = new OrphanShelf();
        Shelves.works(x, 1);
        Shelves.law(x, 0, "p0");
        x.ask(0, 0, 0, 0);
        leave(x, "the least", 0, 0, 0, 0, 0, 0, 0, NONE, 0);
    }

    private static void freeOnes() {
        OrphanShelf x = new OrphanShelf();
        Shelves.works(x, 1);
        Shelves.law(x, 0, "u0;f5;e5");
        x.now(1);
        x.ask(1, 0, 0, 2);
        leave(x, "a FREE one", 0, 1, 0, 0, 2, 1, 0, NONE, 1);
    }

    private static void itsEnd() {
        OrphanShelf x = Checks.made(Promise35LeaveTest::shelf);
        x.now(106);
        P.due("by LAW", x.leave(0, 6), 107);
        x.comes(0);
        P.due("by coming", x.leave(0, 6), 106);
        leave(x, "all else stays", 0, 8, 1, 3, 3, 100, 123);
        OrphanShelf y = Checks.made(Promise35LeaveTest::shelf);
        y.now(108);
        y.comes(0);
        P.due("by LAW ahead of coming", y.leave(0, 6), 107);
        OrphanShelf z = new OrphanShelf();
        Shelves.persons(z, 1);
        Shelves.works(z, 1);
        z.share(0, 0, 1);
        Shelves.law(z, 0, "p0");
        z.ask(0, 0, 0, 0);
        P.due("none yet", z.leave(0, 6), NONE);
        z.comes(0);
        P.due("on DAY 0", z.leave(0, 6), 0);
    }

    private static void itStaysAsItWasGiven() {
        OrphanShelf x = Checks.made(Promise35LeaveTest::shelf);
        x.now(105);
        Shelves.law(x, 3, "f5;e99;u0");
        leave(x, "LAWS that come later", 0, 8, 1, 3, 3, 100, 123, 107, 0);
    }

    private static void noSuchLeave() {
        for (int k : new int[] {-1, 1, 99, 100, FAR[0], FAR[1]}) {
            for (int what : new int[] {0, 6, 7}) {
                P.isNone("LEAVE " + k + ", " + what, Promise35LeaveTest::shelf, x -> x.leave(k, what));
            }
        }
        P.isNone("no LEAVES", x -> Shelves.works(x, 1), x -> x.leave(0, 0));
    }

    private static void others() {
        for (int what : new int[] {-1, 8, 9, FAR[0], FAR[1]}) {
            P.isNone("what " + what, Promise35LeaveTest::shelf, x -> x.leave(0, what));
        }
    }
}
