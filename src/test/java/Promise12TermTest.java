/** Promise 12: term. THE TERM of a WORK: where it ends at the earliest and at the latest. */
public final class Promise12TermTest {
    private static final Checks P = new Checks("promise 12, term");
    private static final int NONE = OrphanShelf.NONE;
    private static final int[] FAR = {Integer.MIN_VALUE, Integer.MAX_VALUE};

    public static void main(String[] args) {
        byTheDayOnWhichItCameOut();
        byTheDeathOfTheLast();
        theGreaterOfBoth();
        oneWhoLivesStill();
        whereNoneTellsOne();
        personsWhoHoldOnThatDay();
        asKnown();
        numbersAsOfThatDay();
        theGreatest();
        noSuchOnes();
        P.end();
    }

    /** PERSONS 0 and 1, FIRM 2; WORK 0 came out from 1000 to 1100. LAND 0 has t and u, 1 has t, 2 has u, 3 none. */
    private static void shelf(OrphanShelf x) {
        x.now(5000);
        Shelves.persons(x, 2);
        Shelves.firms(x, 1);
        x.work(0, 0, 1000, 1100, 0, NONE);
        Shelves.law(x, 0, "t2;u3");
        Shelves.law(x, 1, "t2");
        Shelves.law(x, 2, "u3");
    }

    private static OrphanShelf made() {
        return Checks.made(Promise12TermTest::shelf);
    }

    private static void term(OrphanShelf x, String at, int land, int earliest, int latest) {
        P.due(at + ": the earliest", x.term(0, land, 9, 5000, 0), earliest);
        P.due(at + ": the latest", x.term(0, land, 9, 5000, 1), latest);
    }

    private static void byTheDayOnWhichItCameOut() {
        OrphanShelf x = made();
        term(x, "u alone", 2, 1000 + 3 * 365, 1100 + 3 * 365);
        x.share(0, 0, 10);
        term(x, "u alone, whoever lives", 2, 1000 + 3 * 365, 1100 + 3 * 365);
        Shelves.law(x, 3, "u0");
        term(x, "no years behind it", 3, 1000, 1100);
    }

    private static void byTheDeathOfTheLast() {
        OrphanShelf x = made();
        x.share(0, 0, 10);
        x.died(0, 1200, 1500);
        term(x, "of one", 1, 1200 + 2 * 365, 1500 + 2 * 365);
        x.share(0, 1, 10);
        x.died(1, 1300, 1400);
        term(x, "of both, the greatest of each", 1, 1300 + 2 * 365, 1500 + 2 * 365);
        x.died(1, 0, 0);
        term(x, "of the last", 1, 1200 + 2 * 365, 1500 + 2 * 365);
        Shelves.law(x, 3, "t0");
        term(x, "no years behind it", 3, 1200, 1500);
        x.died(0, 0, 0);
        term(x, "on DAY 0", 3, 0, 0);
    }

    private static void theGreaterOfBoth() {
        OrphanShelf x = made();
        x.share(0, 0, 10);
        x.died(0, 1200, 1500);
        term(x, "u at the earliest, t at the latest", 0, 1000 + 3 * 365, 1500 + 2 * 365);
        x.died(0, 1365, 1465);
        term(x, "both alike", 0, 1000 + 3 * 365, 1100 + 3 * 365);
        x.died(0, 1366, 1466);
        term(x, "t by one DAY", 0, 1001 + 3 * 365, 1101 + 3 * 365);
        x.died(0, 1364, 1464);
        term(x, "u by one DAY", 0, 1000 + 3 * 365, 1100 + 3 * 365);
    }

    private static void oneWhoLivesStill() {
        OrphanShelf x = made();
        x.share(0, 0, 10);
        term(x, "t alone", 1, NONE, NONE);
        term(x, "t and u: none", 0, NONE, NONE);
        term(x, "u alone", 2, 1000 + 3 * 365, 1100 + 3 * 365);
        x.died(0, 1200, 1500);
        x.share(0, 1, 10);
        term(x, "one of two", 1, NONE, NONE);
        term(x, "one of two, though u has one", 0, NONE, NONE);
        x.died(1, 1200, 1200);
        term(x, "none of two any more", 1, 1200 + 2 * 365, 1500 + 2 * 365);
    }

    private static void whereNoneTellsOne() {
        OrphanShelf x = made();
        term(x, "no LAW", 3, NONE, NONE);
        term(x, "no PERSONS: no t", 1, NONE, NONE);
        term(x, "no PERSONS: u alone", 0, 1000 + 3 * 365, 1100 + 3 * 365);
        x.share(0, 2, 10);
        term(x, "a FIRM alone: no t", 1, NONE, NONE);
        term(x, "a FIRM alone: u", 0, 1000 + 3 * 365, 1100 + 3 * 365);
        x.share(0, 0, 10);
        x.died(0, 1200, 1500);
        term(x, "a FIRM beside a PERSON", 1, 1200 + 2 * 365, 1500 + 2 * 365);
    }

    private static void personsWhoHoldOnThatDay() {
        OrphanShelf x = made();
        Shelves.firms(x, 1);
        x.share(0, 2, 10);
        x.merge(2, 3, 30);
        Shelves.law(x, 3, "t2;u1");
        P.due("FIRMS do not die", x.term(0, 3, 29, 5000, 1), 1100 + 365);
        P.due("nor what they are part of", x.term(0, 3, 30, 5000, 1), 1100 + 365);
    }

    private static void asKnown() {
        OrphanShelf x = made();
        x.share(0, 0, 10);
        x.died(0, 1200, 1500);
        x.now(5002);
        x.died(0, 700, 800);
        P.due("the DAY ahead of the telling", x.term(0, 1, 9, 4999, 1), NONE);
        P.due("on the DAY of the telling", x.term(0, 1, 9, 5000, 1), 1500 + 2 * 365);
        P.due("the DAY ahead of the next", x.term(0, 1, 9, 5001, 1), 1500 + 2 * 365);
        P.due("the latest telling", x.term(0, 1, 9, 5002, 1), 800 + 2 * 365);
        P.due("on the last DAY", x.term(0, 1, 99999, 99999, 0), 700 + 2 * 365);
    }

    private static void numbersAsOfThatDay() {
        OrphanShelf x = new OrphanShelf();
        Shelves.persons(x, 1);
        x.work(0, 0, 0, 10, 0, NONE);
        x.share(0, 0, 10);
        Shelves.law(x, 0, "u1;u2(f=1)");
        Shelves.law(x, 1, 100, 200, "u4");
        x.now(800);
        x.look(0, 0, 300, 0);
        P.due("found, as KNOWN", x.term(0, 0, 500, 800, 0), 730);
        P.due("not KNOWN yet", x.term(0, 0, 500, 799, 0), 365);
        P.due("not found yet", x.term(0, 0, 299, 800, 0), 365);
        P.due("the DAY ahead of the LAW", x.term(0, 1, 99, 800, 0), NONE);
        P.due("its first DAY", x.term(0, 1, 100, 800, 0), 4 * 365);
        P.due("its last DAY", x.term(0, 1, 200, 800, 0), 4 * 365);
        P.due("the DAY behind it", x.term(0, 1, 201, 800, 0), NONE);
    }

    private static void theGreatest() {
        OrphanShelf x = new OrphanShelf();
        x.now(99999);
        Shelves.persons(x, 1);
        x.work(0, 0, 99998, 99999, 0, NONE);
        x.share(0, 0, 10);
        x.died(0, 99997, 99999);
        Shelves.law(x, 0, "u999999");
        Shelves.law(x, 1, "t999999");
        term0(x, "u", 0, 99998 + 999999 * 365, 99999 + 999999 * 365);
        term0(x, "t", 1, 99997 + 999999 * 365, 99999 + 999999 * 365);
    }

    private static void term0(OrphanShelf x, String at, int land, int earliest, int latest) {
        P.due(at + ": the earliest", x.term(0, land, 99999, 99999, 0), earliest);
        P.due(at + ": the latest", x.term(0, land, 99999, 99999, 1), latest);
    }

    private static void noSuchOnes() {
        for (int what : new int[] {-1, 2, 3, FAR[0], FAR[1]}) {
            P.isNone("what " + what, Promise12TermTest::shelf, x -> x.term(0, 2, 9, 9, what));
        }
        for (int w : new int[] {-1, 1, 79, 80, FAR[0], FAR[1]}) {
            P.isNone("WORK " + w, Promise12TermTest::shelf, x -> x.term(w, 2, 9, 9, 0));
        }
        for (int land : new int[] {-1, 4, FAR[0], FAR[1]}) {
            P.isNone("LAND " + land, Promise12TermTest::shelf, x -> x.term(0, land, 9, 9, 0));
        }
        for (int day : new int[] {-1, 100000, FAR[0], FAR[1]}) {
            P.isNone("DAY " + day, Promise12TermTest::shelf, x -> x.term(0, 2, day, 9, 0));
            P.isNone("as KNOWN on " + day, Promise12TermTest::shelf, x -> x.term(0, 2, 9, day, 0));
        }
        P.due("DAY 0", made().term(0, 2, 0, 0, 0), 1000 + 3 * 365);
    }
}
