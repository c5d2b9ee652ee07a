/** Promise 25: uses. USES of a LEAVE on a DAY on which it lasted: 1 to 100000, of 0 to 100000 pence; 300 tellings. */
public final class Promise25UsesTest {
    private static final Checks P = new Checks("promise 25, uses");
    private static final int NONE = OrphanShelf.NONE;
    private static final int[] FAR = {Integer.MIN_VALUE, Integer.MAX_VALUE};

    public static void main(String[] args) {
        earnings();
        theLeastAndTheMost();
        noSuchOnes();
        behindNow();
        itDidNotLastYet();
        itDidNotLastAnyMore();
        itEndedByComing();
        freeOnes();
        threeHundred();
        P.end();
    }

    /** PERSON 0 has all of the WORK; LEAVES 0 and 1 were given on DAY 100, 1 for 5 DAYS; DAY 110. */
    private static void shelf(OrphanShelf x) {
        Shelves.persons(x, 1);
        x.work(0, 0, 0, 0, 0, NONE);
        x.work(1, 0, 0, 0, 0, NONE);
        x.share(0, 0, 100);
        x.share(1, 0, 100);
        x.now(100);
        Shelves.law(x, 0, "p0;w100;e5(k=1)");
        x.ask(0, 0, 0, 0);
        x.ask(0, 1, 0, 0);
        x.now(110);
    }

    private static OrphanShelf made() {
        return Checks.made(Promise25UsesTest::shelf);
    }

    private static void earnings() {
        OrphanShelf x = made();
        P.due("uses", x.uses(0, 105, 3, 5), true);
        P.due("more of them", x.uses(0, 105, 3, 5), true);
        P.due("of the other", x.uses(1, 104, 7, 11), true);
        P.due("tellings", x.count(7), 3);
        x.comes(0);
        P.due("all of the one", x.paid(0, 0), 30);
        P.due("all of the other", x.paid(0, 1), 77);
    }

    private static void theLeastAndTheMost() {
        OrphanShelf x = made();
        P.due("one of nothing", x.uses(0, 105, 1, 0), true);
        P.due("the most of nothing", x.uses(0, 105, 100000, 0), true);
        P.due("one penny", x.uses(0, 105, 1, 1), true);
        P.due("the most of the most", x.uses(0, 105, 100000, 100000), true);
        x.comes(0);
        P.due("together", x.paid(0, 0), 10000000001L);
    }

    private static void told(OrphanShelf x) {
        shelf(x);
        x.uses(0, 105, 3, 5);
    }

    private static void noSuchOnes() {
        for (int k : new int[] {-1, 2, 99, 100, FAR[0], FAR[1]}) {
            P.isFalse("LEAVE " + k, Promise25UsesTest::told, x -> x.uses(k, 105, 1, 1));
        }
        for (int n : new int[] {0, -1, 100001, FAR[0], FAR[1]}) {
            P.isFalse(n + " uses", Promise25UsesTest::told, x -> x.uses(0, 105, n, 1));
        }
        for (int pence : new int[] {-1, 100001, FAR[0], FAR[1]}) {
            P.isFalse(pence + " pence", Promise25UsesTest::told, x -> x.uses(0, 105, 1, pence));
        }
        for (int day : new int[] {-1, 100000, FAR[0], FAR[1]}) {
            P.isFalse("DAY " + day, Promise25UsesTest::told, x -> x.uses(0, day, 1, 1));
        }
        P.isFalse("no LEAVES", x -> Shelves.works(x, 1), x -> x.uses(0, 0, 1, 1));
    }

    private static void behindNow() {
        OrphanShelf x = made();
        P.due("NOW", x.uses(0, 110, 1, 1), true);
        P.isFalse("the DAY behind NOW", Promise25UsesTest::told, y -> y.uses(0, 111, 1, 1));
        x.now(111);
        P.due("that DAY has come", x.uses(0, 111, 1, 1), true);
        x.now(99999);
        P.due("the last DAY", x.uses(0, 99999, 1, 1), true);
        P.isFalse("DAY 100000 on the last DAY", y -> {
            told(y);
            y.now(99999);
        }, y -> y.uses(0, 100000, 1, 1));
    }

    private static void itDidNotLastYet() {
        OrphanShelf x = made();
        P.due("the DAY on which it was given", x.uses(0, 100, 1, 1), true);
        P.isFalse("the DAY ahead", Promise25UsesTest::told, y -> y.uses(0, 99, 1, 1));
        P.isFalse("DAY 0", Promise25UsesTest::told, y -> y.uses(0, 0, 1, 1));
    }

    private static void itDidNotLastAnyMore() {
        OrphanShelf x = made();
        P.due("the DAY ahead of its end", x.uses(1, 104, 1, 1), true);
        P.isFalse("its end", Promise25UsesTest::told, y -> y.uses(1, 105, 1, 1));
        P.isFalse("the DAY behind its end", Promise25UsesTest::told, y -> y.uses(1, 106, 1, 1));
        Shelves.law(x, 0, "e0");
        P.due("given for no DAY", x.ask(0, 0, 0, 0), 2);
        P.due("no use of it", x.uses(2, 110, 1, 1), false);
        Shelves.law(x, 0, "e1");
        P.due("given for one DAY", x.ask(0, 0, 0, 0), 3);
        P.due("on that", x.uses(3, 110, 1, 1), true);
        x.now(111);
        P.due("not on the next", x.uses(3, 111, 1, 1), false);
    }

    private static void itEndedByComing() {
        Checks.Making ended = x -> {
            told(x);
            x.comes(0);
            x.now(115);
        };
        OrphanShelf x = Checks.made(ended);
        P.due("the DAY ahead of that", x.uses(0, 109, 1, 1), true);
        P.isFalse("on that DAY", ended, y -> y.uses(0, 110, 1, 1));
        P.isFalse("behind it", ended, y -> y.uses(0, 111, 1, 1));
        P.due("what was told counts", x.paid(0, 0), 16);
        OrphanShelf today = made();
        P.due("told ahead of it, today", today.uses(0, 110, 2, 2), true);
        today.comes(0);
        P.due("not behind it, today", today.uses(0, 110, 2, 2), false);
        P.due("what was told counts still", today.paid(0, 0), 4);
    }

    private static void freeOnes() {
        OrphanShelf x = new OrphanShelf();
        Shelves.works(x, 1);
        Shelves.law(x, 0, "u0;e5");
        x.now(10);
        P.due("FREE", x.ask(0, 0, 0, 0), 0);
        x.now(500);
        P.due("the DAY ahead", x.uses(0, 9, 1, 1), false);
        P.due("the DAY on which it was given", x.uses(0, 10, 1, 1), true);
        P.due("on and on", x.uses(0, 500, 1, 1), true);
        P.due("tellings", x.count(7), 2);
    }

    private static void many(OrphanShelf x, int n) {
        shelf(x);
        for (int i = 0; i < n; i++) {
            x.uses(i % 2, 104, 1, 1);
        }
    }

    private static void threeHundred() {
        OrphanShelf x = Checks.made(y -> many(y, 299));
        P.due("a refused one", x.uses(0, 111, 1, 1), false);
        P.due("the 300th", x.uses(0, 104, 1, 1), true);
        P.due("a 301st", x.uses(0, 104, 1, 1), false);
        P.due("of the other", x.uses(1, 104, 1, 1), false);
        P.due("tellings", x.count(7), 300);
        x.comes(0);
        P.due("of the one", x.paid(0, 0), 151);
        P.due("of the other", x.paid(0, 1), 149);
        P.isFalse("a 301st of the one", y -> many(y, 300), y -> y.uses(0, 104, 1, 1));
        P.isFalse("a 301st of the other", y -> many(y, 300), y -> y.uses(1, 104, 1, 1));
    }
}
