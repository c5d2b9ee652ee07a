/** Promise 5: merge. A FIRM is part of another FIRM from a DAY on; told once; nothing leads back to it. */
public final class Promise05MergeTest {
    private static final Checks P = new Checks("promise 5, merge");

    public static void main(String[] args) {
        fromADayOn();
        noSuchOnes();
        noSuchDay();
        persons();
        toldOnce();
        whatWouldLeadBack();
        leadingBackThroughAll();
        P.end();
    }

    /** Five FIRMS, 0 to 4, and a PERSON, 5; WORKS 0 to 4 are the FIRMS'; DAY 100. */
    private static void shelf(OrphanShelf x) {
        Shelves.firms(x, 5);
        Shelves.persons(x, 1);
        Shelves.works(x, 6);
        for (int i = 0; i < 6; i++) {
            x.share(i, i, 10);
        }
        x.now(100);
    }

    private static void holds(OrphanShelf x, String at, int w, int day, int want) {
        P.due(at, x.holds(w, 0, day, 99999), want);
    }

    private static void fromADayOn() {
        OrphanShelf x = Checks.made(Promise05MergeTest::shelf);
        P.due("from a DAY that is past", x.merge(0, 1, 50), true);
        holds(x, "the DAY ahead", 0, 49, 0);
        holds(x, "that DAY", 0, 50, 1);
        holds(x, "the last DAY", 0, 99999, 1);
        P.due("from DAY 0", x.merge(1, 2, 0), true);
        holds(x, "on DAY 0", 1, 0, 2);
        P.due("from the last DAY, behind NOW", x.merge(2, 3, 99999), true);
        holds(x, "the DAY ahead of the last", 2, 99998, 2);
        holds(x, "on the last", 2, 99999, 3);
        P.due("two in one", x.merge(4, 3, 100), true);
        holds(x, "NOW", 4, 100, 3);
    }

    private static void noSuchOnes() {
        for (int o : new int[] {-1, 6, 39, 40, Integer.MIN_VALUE, Integer.MAX_VALUE}) {
            P.isFalse("merge(" + o + ", 0)", Promise05MergeTest::shelf, x -> x.merge(o, 0, 5));
            P.isFalse("merge(0, " + o + ")", Promise05MergeTest::shelf, x -> x.merge(0, o, 5));
        }
    }

    private static void noSuchDay() {
        for (int day : new int[] {-1, 100000, Integer.MIN_VALUE, Integer.MAX_VALUE}) {
            P.isFalse("from DAY " + day, Promise05MergeTest::shelf, x -> x.merge(0, 1, day));
        }
    }

    private static void persons() {
        P.isFalse("a PERSON is no part", Promise05MergeTest::shelf, x -> x.merge(5, 0, 5));
        P.isFalse("nothing is a part of a PERSON", Promise05MergeTest::shelf, x -> x.merge(0, 5, 5));
        P.isFalse("a PERSON of itself", Promise05MergeTest::shelf, x -> x.merge(5, 5, 5));
    }

    private static void toldOnce() {
        Checks.Making told = x -> {
            shelf(x);
            x.merge(0, 1, 50);
        };
        P.isFalse("part of one already", told, x -> x.merge(0, 2, 50));
        P.isFalse("part of one already, from an earlier DAY", told, x -> x.merge(0, 2, 0));
        P.isFalse("part of one already, from a later DAY", told, x -> x.merge(0, 2, 99999));
        P.isFalse("part of just that one", told, x -> x.merge(0, 1, 50));
        P.isFalse("the same from another DAY", told, x -> x.merge(0, 1, 40));
        OrphanShelf x = Checks.made(told);
        x.merge(0, 2, 50);
        x.now(200);
        P.due("later neither", x.merge(0, 2, 150), false);
        holds(x, "it is part of the first", 0, 99999, 1);
        P.due("refused ahead of being told", x.merge(2, 5, 9), false);
        P.due("may be told then", x.merge(2, 3, 9), true);
    }

    private static void whatWouldLeadBack() {
        P.isFalse("a part of itself", Promise05MergeTest::shelf, x -> x.merge(0, 0, 5));
        Checks.Making chain = x -> {
            shelf(x);
            x.merge(0, 1, 50);
            x.merge(1, 2, 60);
            x.merge(2, 3, 70);
        };
        P.isFalse("one that is part of it", chain, x -> x.merge(3, 2, 80));
        P.isFalse("one that is part of that", chain, x -> x.merge(3, 1, 80));
        P.isFalse("and so on", chain, x -> x.merge(3, 0, 80));
        P.isFalse("even from a DAY ahead of all", chain, x -> x.merge(3, 0, 0));
        P.isFalse("itself at the end", chain, x -> x.merge(3, 3, 80));
        OrphanShelf x = Checks.made(chain);
        P.due("another one", x.merge(3, 4, 80), true);
        P.due("that leads back now", x.merge(4, 0, 80), false);
        holds(x, "all of them", 0, 80, 4);
        holds(x, "the last one holds its own", 4, 80, 4);
    }

    private static void allInOne(OrphanShelf x) {
        Shelves.firms(x, 40);
        Shelves.works(x, 1);
        x.share(0, 0, 10);
        for (int o = 0; o < 39; o++) {
            x.merge(o, o + 1, 10);
        }
    }

    private static void leadingBackThroughAll() {
        OrphanShelf x = Checks.made(Promise05MergeTest::allInOne);
        P.due("forty one in another", x.holds(0, 0, 10, 0), 39);
        P.due("the DAY ahead", x.holds(0, 0, 9, 0), 0);
        for (int o : new int[] {0, 20, 38, 39}) {
            P.isFalse("back to " + o, Promise05MergeTest::allInOne, y -> y.merge(39, o, 5));
        }
    }
}
