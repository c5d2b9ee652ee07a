/** Promise 8: holds. Who HOLDS the i-th SHARE of a WORK on a DAY as KNOWN on t. */
public final class Promise08HoldsTest {
    private static final Checks P = new Checks("promise 8, holds");
    private static final int NONE = OrphanShelf.NONE;
    private static final int[] NO_DAYS = {-1, 100000, Integer.MIN_VALUE, Integer.MAX_VALUE};

    public static void main(String[] args) {
        everyShare();
        noneSuch();
        noSuchDays();
        fromADayOn();
        asKnown();
        oneInAnother();
        gaps();
        P.end();
    }

    /** FIRMS 0 to 3 and PERSON 4; WORK 0 is FIRM 0's, PERSON 4's and FIRM 1's. DAY 100. */
    private static void shelf(OrphanShelf x) {
        Shelves.firms(x, 4);
        Shelves.persons(x, 1);
        Shelves.works(x, 2);
        x.share(0, 0, 10);
        x.share(0, 4, 20);
        x.share(0, 1, 30);
        x.now(100);
    }

    private static void everyShare() {
        OrphanShelf x = Checks.made(Promise08HoldsTest::shelf);
        P.due("the first", x.holds(0, 0, 0, 0), 0);
        P.due("the second", x.holds(0, 1, 0, 0), 4);
        P.due("the third", x.holds(0, 2, 0, 0), 1);
        P.due("on the last DAY", x.holds(0, 2, 99999, 99999), 1);
    }

    private static void noneSuch() {
        for (int i : new int[] {-1, 3, 4, Integer.MIN_VALUE, Integer.MAX_VALUE}) {
            P.isNone("SHARE " + i, Promise08HoldsTest::shelf, x -> x.holds(0, i, 0, 0));
        }
        P.isNone("a WORK without SHARES", Promise08HoldsTest::shelf, x -> x.holds(1, 0, 0, 0));
        for (int w : new int[] {-1, 2, 79, 80, Integer.MIN_VALUE, Integer.MAX_VALUE}) {
            P.isNone("WORK " + w, Promise08HoldsTest::shelf, x -> x.holds(w, 0, 0, 0));
        }
    }

    private static void noSuchDays() {
        for (int day : NO_DAYS) {
            P.isNone("on DAY " + day, Promise08HoldsTest::shelf, x -> x.holds(0, 0, day, 0));
            P.isNone("as KNOWN on " + day, Promise08HoldsTest::shelf, x -> x.holds(0, 0, 0, day));
        }
    }

    private static void fromADayOn() {
        OrphanShelf x = Checks.made(Promise08HoldsTest::shelf);
        x.merge(0, 2, 200);
        P.due("the DAY ahead", x.holds(0, 0, 199, 100), 0);
        P.due("that DAY", x.holds(0, 0, 200, 100), 2);
        P.due("the DAY behind", x.holds(0, 0, 201, 100), 2);
        P.due("the others' are their own", x.holds(0, 2, 200, 100), 1);
        P.due("a PERSON's, too", x.holds(0, 1, 200, 100), 4);
    }

    private static void asKnown() {
        OrphanShelf x = Checks.made(Promise08HoldsTest::shelf);
        x.merge(0, 2, 50);
        P.due("not told yet", x.holds(0, 0, 60, 99), 0);
        P.due("told on that DAY", x.holds(0, 0, 60, 100), 2);
        P.due("told then", x.holds(0, 0, 60, 101), 2);
        P.due("told, but not a part yet", x.holds(0, 0, 49, 100), 0);
    }

    private static void oneInAnother() {
        OrphanShelf x = Checks.made(Promise08HoldsTest::shelf);
        x.merge(0, 1, 10);
        x.now(110);
        x.merge(1, 2, 20);
        x.now(120);
        x.merge(2, 3, 30);
        int[] days = {9, 10, 19, 20, 29, 30};
        int[] held = {0, 1, 1, 2, 2, 3};
        for (int i = 0; i < days.length; i++) {
            P.due("on DAY " + days[i], x.holds(0, 0, days[i], 120), held[i]);
        }
        int[] known = {99, 100, 109, 110, 119, 120};
        for (int i = 0; i < known.length; i++) {
            P.due("as KNOWN on " + known[i], x.holds(0, 0, 30, known[i]), held[i]);
        }
    }

    /** What is not part of another one yet holds, though that one is part of a third one long since. */
    private static void gaps() {
        OrphanShelf x = Checks.made(Promise08HoldsTest::shelf);
        x.merge(1, 2, 10);
        x.merge(0, 1, 40);
        x.merge(2, 3, 60);
        P.due("ahead of its own joining", x.holds(0, 0, 39, 100), 0);
        P.due("through the one that was a part ahead of it", x.holds(0, 0, 40, 100), 2);
        P.due("that one's own", x.holds(0, 2, 39, 100), 2);
        P.due("the DAY ahead of the last", x.holds(0, 0, 59, 100), 2);
        P.due("all of them", x.holds(0, 0, 60, 100), 3);
    }
}
