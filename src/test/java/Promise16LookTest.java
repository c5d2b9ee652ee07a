/** Promise 16: look. A LOOK through a SOURCE for a WORK on a DAY not behind NOW, that found an OWNER or nobody. */
public final class Promise16LookTest {
    private static final Checks P = new Checks("promise 16, look");
    private static final int NONE = OrphanShelf.NONE;
    private static final int[] FAR = {Integer.MIN_VALUE, Integer.MAX_VALUE};

    public static void main(String[] args) {
        numbers();
        everySource();
        noSuchOnes();
        noSuchDay();
        behindNow();
        hasNoShare();
        whoIsFound();
        threeHundred();
        P.end();
    }

    /** PERSONS 0 and 1, FIRMS 2 and 3; WORK 0 is PERSON 1's and FIRM 2's, which is part of 3; DAY 10. */
    private static void shelf(OrphanShelf x) {
        Shelves.persons(x, 2);
        Shelves.firms(x, 2);
        Shelves.works(x, 2);
        x.share(0, 1, 5);
        x.share(0, 2, 5);
        x.merge(2, 3, 0);
        x.now(10);
        Shelves.law(x, 0, "s0;s11");
    }

    private static void numbers() {
        OrphanShelf x = Checks.made(Promise16LookTest::shelf);
        P.due("the first", x.look(0, 0, 0, NONE), 0);
        P.due("the same again", x.look(0, 0, 0, NONE), 1);
        P.due("a refused one", x.look(0, 12, 0, NONE), NONE);
        P.due("for another WORK", x.look(1, 11, 10, NONE), 2);
        P.due("that finds", x.look(0, 5, 10, 1), 3);
        P.due("LOOKS", x.count(4), 4);
    }

    private static void everySource() {
        for (int s = 0; s < 12; s++) {
            OrphanShelf x = new OrphanShelf();
            Shelves.works(x, 2);
            Shelves.law(x, 0, "s" + s);
            P.due("not looked through " + s, x.enough(1, 0, 0, 0), 0);
            P.due("SOURCE " + s, x.look(1, s, 0, NONE), 0);
            P.due("looked through " + s, x.enough(1, 0, 0, 0), 1);
            P.due("not for the other WORK", x.enough(0, 0, 0, 0), 0);
        }
    }

    private static void noSuchOnes() {
        for (int w : new int[] {-1, 2, 79, 80, FAR[0], FAR[1]}) {
            P.isNone("WORK " + w, Promise16LookTest::shelf, x -> x.look(w, 0, 5, NONE));
        }
        for (int s : new int[] {-1, 12, 13, FAR[0], FAR[1]}) {
            P.isNone("SOURCE " + s, Promise16LookTest::shelf, x -> x.look(0, s, 5, NONE));
        }
        for (int o : new int[] {-2, 4, 39, 40, FAR[0], FAR[1]}) {
            P.isNone("OWNER " + o, Promise16LookTest::shelf, x -> x.look(0, 0, 5, o));
        }
    }

    private static void noSuchDay() {
        for (int day : new int[] {-1, 100000, FAR[0], FAR[1]}) {
            P.isNone("DAY " + day, Promise16LookTest::shelf, x -> x.look(0, 0, day, NONE));
        }
        P.isNone("DAY 100000 on the last DAY", x -> {
            shelf(x);
            x.now(99999);
        }, x -> x.look(0, 0, 100000, 1));
    }

    private static void behindNow() {
        OrphanShelf x = Checks.made(Promise16LookTest::shelf);
        P.due("DAY 0", x.look(0, 0, 0, NONE), 0);
        P.due("NOW", x.look(0, 0, 10, NONE), 1);
        P.due("the DAY behind NOW", x.look(0, 0, 11, NONE), NONE);
        P.isNone("the DAY behind NOW, nobody", Promise16LookTest::shelf, y -> y.look(0, 0, 11, NONE));
        P.isNone("the DAY behind NOW, somebody", Promise16LookTest::shelf, y -> y.look(0, 0, 11, 1));
        x.now(11);
        P.due("that DAY has come", x.look(0, 0, 11, NONE), 2);
        x.now(99999);
        P.due("the last DAY", x.look(0, 0, 99999, NONE), 3);
    }

    private static void hasNoShare() {
        P.isNone("has none at all", Promise16LookTest::shelf, x -> x.look(0, 0, 5, 0));
        P.isNone("holds one, but is told for none", Promise16LookTest::shelf, x -> x.look(0, 0, 5, 3));
        P.isNone("has one of another WORK", Promise16LookTest::shelf, x -> x.look(1, 0, 5, 1));
        OrphanShelf x = Checks.made(Promise16LookTest::shelf);
        P.due("the first SHARE's", x.look(0, 0, 5, 1), 0);
        P.due("the second one's", x.look(0, 0, 5, 2), 1);
        P.due("was refused", x.look(0, 0, 5, 0), NONE);
        x.share(0, 0, 5);
        P.due("has one now", x.look(0, 0, 5, 0), 2);
    }

    private static void whoIsFound() {
        OrphanShelf x = Checks.made(Promise16LookTest::shelf);
        x.look(0, 0, 4, 1);
        P.due("from that DAY on", x.found(1, 4, 10), 1);
        P.due("not the DAY ahead", x.found(1, 3, 10), 0);
        P.due("told at NOW", x.found(1, 4, 9), 0);
        x.look(0, 0, 4, NONE);
        P.due("nobody else", x.found(2, 10, 10), 0);
    }

    private static void many(OrphanShelf x, int n) {
        shelf(x);
        for (int i = 0; i < n; i++) {
            x.look(0, i % 11, 10, NONE);
        }
    }

    private static void threeHundred() {
        OrphanShelf x = new OrphanShelf();
        shelf(x);
        for (int i = 0; i < 299; i++) {
            P.due("LOOK " + i, x.look(0, i % 11, 10, NONE), i);
        }
        P.due("SOURCE 11 is not looked through", x.why(0, 0, 10, 10, 2), 11);
        P.due("the 300th", x.look(0, 11, 10, 1), 299);
        P.due("is looked through", x.enough(0, 0, 10, 10), 1);
        P.due("found somebody", x.found(1, 10, 10), 1);
        P.due("a 301st", x.look(0, 0, 10, 2), NONE);
        P.due("found nobody", x.found(2, 10, 10), 0);
        P.due("LOOKS", x.count(4), 300);
        P.isNone("a 301st that finds", y -> many(y, 300), y -> y.look(0, 11, 10, 1));
        P.isNone("a 301st that finds nobody", y -> many(y, 300), y -> y.look(1, 11, 0, NONE));
    }
}
