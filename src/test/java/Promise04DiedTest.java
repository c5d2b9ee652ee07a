/** Promise 4: died. A PERSON died between two DAYS, both too; the latest telling counts; 200 are told at most. */
public final class Promise04DiedTest {
    private static final Checks P = new Checks("promise 4, died");
    private static final int NONE = OrphanShelf.NONE;

    public static void main(String[] args) {
        betweenTwoDays();
        noSuchOnes();
        theSecondBelowTheFirst();
        behindNow();
        aFirm();
        theLatestTellingCounts();
        whatWasRefusedDoesNotCount();
        twoHundred();
        P.end();
    }

    /** Two PERSONS and a FIRM, on DAY 1000; WORK 0 is theirs, and a term ends with the death of the last. */
    private static void shelf(OrphanShelf x) {
        Shelves.persons(x, 2);
        Shelves.firms(x, 1);
        Shelves.works(x, 2);
        x.share(0, 0, 10);
        x.share(1, 0, 10);
        x.share(1, 1, 10);
        x.now(1000);
        Shelves.law(x, 0, "t0");
    }

    private static void span(OrphanShelf x, String at, int w, int first, int last) {
        P.due(at + ": the first DAY", x.term(w, 0, 0, 99999, 0), first);
        P.due(at + ": the last DAY", x.term(w, 0, 0, 99999, 1), last);
    }

    private static void betweenTwoDays() {
        OrphanShelf x = Checks.made(Promise04DiedTest::shelf);
        span(x, "nothing is told", 0, NONE, NONE);
        P.due("between two", x.died(0, 10, 20), true);
        span(x, "both too", 0, 10, 20);
        P.due("DAY 0 alone", x.died(0, 0, 0), true);
        span(x, "DAY 0", 0, 0, 0);
        P.due("from DAY 0 to NOW", x.died(0, 0, 1000), true);
        span(x, "all DAYS", 0, 0, 1000);
        P.due("one DAY", x.died(0, 500, 500), true);
        span(x, "one DAY", 0, 500, 500);
    }

    private static void noSuchOnes() {
        for (int o : new int[] {-1, 3, 39, 40, Integer.MIN_VALUE, Integer.MAX_VALUE}) {
            P.isFalse("OWNER " + o, Promise04DiedTest::shelf, x -> x.died(o, 1, 1));
        }
        int[][] spans = {{-1, 5}, {-1, -1}, {Integer.MIN_VALUE, 5}, {5, 100000}, {100000, 100000},
            {0, Integer.MAX_VALUE}, {Integer.MIN_VALUE, Integer.MAX_VALUE}};
        for (int[] span : spans) {
            P.isFalse("DAYS " + span[0] + ", " + span[1], Promise04DiedTest::shelf,
                    x -> x.died(0, span[0], span[1]));
        }
        P.isFalse("DAY 100000 on the last DAY", x -> {
            shelf(x);
            x.now(99999);
        }, x -> x.died(0, 0, 100000));
    }

    private static void theSecondBelowTheFirst() {
        OrphanShelf x = Checks.made(Promise04DiedTest::shelf);
        P.due("the second is the first", x.died(0, 6, 6), true);
        P.isFalse("the second is below the first", Promise04DiedTest::shelf, y -> y.died(0, 6, 5));
        P.isFalse("far below", Promise04DiedTest::shelf, y -> y.died(0, 1000, 0));
    }

    private static void behindNow() {
        OrphanShelf x = Checks.made(Promise04DiedTest::shelf);
        P.due("up to NOW", x.died(0, 999, 1000), true);
        P.due("on NOW", x.died(0, 1000, 1000), true);
        P.isFalse("up to the DAY behind NOW", Promise04DiedTest::shelf, y -> y.died(0, 1000, 1001));
        P.isFalse("on the DAY behind NOW", Promise04DiedTest::shelf, y -> y.died(0, 1001, 1001));
        x.now(1001);
        P.due("that DAY has come", x.died(0, 1000, 1001), true);
        x.now(99999);
        P.due("the last DAY", x.died(0, 99999, 99999), true);
        span(x, "the last DAY", 0, 99999, 99999);
    }

    private static void aFirm() {
        P.isFalse("a FIRM", Promise04DiedTest::shelf, x -> x.died(2, 1, 1));
    }

    private static void theLatestTellingCounts() {
        OrphanShelf x = Checks.made(Promise04DiedTest::shelf);
        x.died(0, 100, 200);
        x.died(0, 50, 60);
        span(x, "the later telling of one DAY", 0, 50, 60);
        x.died(1, 70, 80);
        span(x, "another PERSON's does not count for it", 0, 50, 60);
        span(x, "the greatest of both", 1, 70, 80);
        x.now(1001);
        x.died(0, 300, 400);
        span(x, "the latest telling", 0, 300, 400);
        P.due("as KNOWN the DAY ahead", x.term(0, 0, 0, 1000, 0), 50);
        P.due("as KNOWN on its DAY", x.term(0, 0, 0, 1001, 0), 300);
        P.due("as KNOWN ahead of all", x.term(0, 0, 0, 999, 0), NONE);
    }

    private static void whatWasRefusedDoesNotCount() {
        Checks.Making told = x -> {
            shelf(x);
            x.died(0, 100, 200);
        };
        P.isFalse("backwards", told, x -> x.died(0, 60, 50));
        P.isFalse("behind NOW", told, x -> x.died(0, 60, 1001));
        OrphanShelf x = Checks.made(told);
        x.died(0, 60, 50);
        x.died(0, 60, 1001);
        x.died(0, -1, 50);
        span(x, "the telling that was taken", 0, 100, 200);
    }

    private static void manyDeaths(OrphanShelf x, int n) {
        shelf(x);
        for (int i = 0; i < n; i++) {
            x.died(i % 2, 0, i);
        }
    }

    private static void twoHundred() {
        OrphanShelf x = Checks.made(y -> manyDeaths(y, 199));
        P.due("the 200th", x.died(1, 0, 199), true);
        P.due("a 201st", x.died(1, 0, 0), false);
        P.due("of the other one", x.died(0, 0, 0), false);
        span(x, "the 199th counts still", 0, 0, 198);
        span(x, "the 200th too", 1, 0, 199);
        P.isFalse("a 201st of the one", y -> manyDeaths(y, 200), y -> y.died(0, 7, 7));
        P.isFalse("a 201st of the other", y -> manyDeaths(y, 200), y -> y.died(1, 7, 7));
        OrphanShelf refusals = Checks.made(y -> manyDeaths(y, 199));
        refusals.died(0, 5, 4);
        refusals.died(2, 5, 5);
        P.due("refused ones are not counted", refusals.died(1, 3, 4), true);
        span(refusals, "the 200th behind them", 1, 3, 198);
    }
}
