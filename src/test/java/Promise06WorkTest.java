/** Promise 6: work. WORKS 0 to 79: a KIND, a LAND, two DAYS, MARKS, and eight one in another at most. */
public final class Promise06WorkTest {
    private static final Checks P = new Checks("promise 6, work");
    private static final int NONE = OrphanShelf.NONE;
    private static final int[] FAR = {Integer.MIN_VALUE, Integer.MAX_VALUE};

    public static void main(String[] args) {
        theLeastAndTheMost();
        noSuchKindOrLand();
        noSuchDays();
        noSuchMarks();
        inAnother();
        noSuchOther();
        aNinth();
        eighty();
        P.end();
    }

    private static void two(OrphanShelf x) {
        Shelves.works(x, 2);
        Shelves.law(x, 0, "u0;f1(k=7);f2(l=3)");
    }

    private static void theLeastAndTheMost() {
        OrphanShelf x = new OrphanShelf();
        P.due("the least", x.work(0, 0, 0, 0, 0, NONE), 0);
        P.due("the most", x.work(7, 3, 99999, 99999, 255, NONE), 1);
        P.due("all DAYS", x.work(7, 3, 0, 99999, 255, NONE), 2);
        P.due("one DAY", x.work(3, 1, 500, 500, 128, NONE), 3);
        P.due("WORKS", x.count(2), 4);
        Shelves.law(x, 0, "u0;a1(k=7);l1(l=3)");
        P.due("the KIND 7", x.number(1, 0, 0, 0, 0), 1);
        P.due("not KIND 0", x.number(0, 0, 0, 0, 0), 0);
        P.due("the LAND 3", x.number(1, 0, 0, 0, 1), 1);
        P.due("not LAND 0", x.number(0, 0, 0, 0, 1), 0);
        P.due("the first DAY", x.term(2, 0, 0, 0, 0), 0);
        P.due("the last DAY", x.term(2, 0, 0, 0, 1), 99999);
        P.due("all MARKS", x.like(1, 2, 0), 1);
    }

    private static void noSuchKindOrLand() {
        for (int kind : new int[] {-1, 8, FAR[0], FAR[1]}) {
            P.isNone("KIND " + kind, Promise06WorkTest::two, x -> x.work(kind, 0, 0, 0, 0, NONE));
        }
        for (int land : new int[] {-1, 4, FAR[0], FAR[1]}) {
            P.isNone("LAND " + land, Promise06WorkTest::two, x -> x.work(0, land, 0, 0, 0, NONE));
        }
    }

    private static void noSuchDays() {
        int[][] spans = {{-1, 0}, {-1, -1}, {0, 100000}, {100000, 100000}, {99999, 100000}, {FAR[0], 0},
            {0, FAR[1]}, {FAR[0], FAR[1]}, {5, 4}, {1, 0}, {99999, 0}, {99999, 99998}, {0, -1}, {0, FAR[0]}};
        for (int[] span : spans) {
            P.isNone("DAYS " + span[0] + ", " + span[1], Promise06WorkTest::two,
                    x -> x.work(0, 0, span[0], span[1], 0, NONE));
        }
        OrphanShelf x = new OrphanShelf();
        P.due("DAYS may be behind NOW", x.work(0, 0, 5, 6, 0, NONE), 0);
    }

    private static void noSuchMarks() {
        for (int marks : new int[] {-1, 256, 257, FAR[0], FAR[1]}) {
            P.isNone("MARKS " + marks, Promise06WorkTest::two, x -> x.work(0, 0, 0, 0, marks, NONE));
        }
    }

    private static void inAnother() {
        OrphanShelf x = Checks.made(Promise06WorkTest::two);
        Shelves.law(x, 1, "a1(j=1)");
        P.due("in the last one", x.work(0, 0, 0, 0, 0, 1), 2);
        P.due("beside it", x.work(0, 0, 0, 0, 0, 1), 3);
        P.due("in none", x.work(0, 0, 0, 0, 0, NONE), 4);
        P.due("it lies in another", x.number(2, 1, 0, 0, 0), 1);
        P.due("the other does not", x.number(1, 1, 0, 0, 0), 0);
        P.due("the one in none does not", x.number(4, 1, 0, 0, 0), 0);
    }

    private static void noSuchOther() {
        // The one that is told may not lie in itself: it must lie in one that was told ahead of it.
        for (int in : new int[] {2, 3, 79, 80, -2, FAR[0], FAR[1]}) {
            P.isNone("in " + in, Promise06WorkTest::two, x -> x.work(0, 0, 0, 0, 0, in));
        }
        P.isNone("the first one in itself", x -> { }, x -> x.work(0, 0, 0, 0, 0, 0));
    }

    private static void eight(OrphanShelf x) {
        for (int w = 0; w < 8; w++) {
            x.work(0, 0, 0, 0, 0, w - 1);
        }
    }

    private static void aNinth() {
        OrphanShelf x = new OrphanShelf();
        for (int w = 0; w < 8; w++) {
            P.due(w + 1 + " one in another", x.work(0, 0, 0, 0, 0, w - 1), w);
        }
        P.due("a ninth", x.work(0, 0, 0, 0, 0, 7), NONE);
        P.due("another eighth", x.work(0, 0, 0, 0, 0, 6), 8);
        P.due("a ninth in that", x.work(0, 0, 0, 0, 0, 8), NONE);
        P.due("another seventh", x.work(0, 0, 0, 0, 0, 5), 9);
        P.due("an eighth in that", x.work(0, 0, 0, 0, 0, 9), 10);
        P.due("a new first one", x.work(0, 0, 0, 0, 0, NONE), 11);
        P.due("a second in that", x.work(0, 0, 0, 0, 0, 11), 12);
        P.isNone("a ninth is refused", Promise06WorkTest::eight, y -> y.work(0, 0, 0, 0, 0, 7));
    }

    private static void eighty() {
        OrphanShelf x = new OrphanShelf();
        for (int w = 0; w < 80; w++) {
            P.due("WORK " + w, x.work(w % 8, w % 4, w, w, w, NONE), w);
        }
        P.due("an 81st", x.work(0, 0, 0, 0, 0, NONE), NONE);
        P.due("WORKS", x.count(2), 80);
        P.due("SHARES of the last", x.count(119), 0);
        P.isNone("an 81st in none", y -> Shelves.works(y, 80), y -> y.work(0, 0, 0, 0, 0, NONE));
        P.isNone("an 81st in the last", y -> Shelves.works(y, 80), y -> y.work(0, 0, 0, 0, 0, 79));
        OrphanShelf refusals = Checks.made(y -> Shelves.works(y, 79));
        refusals.work(8, 0, 0, 0, 0, NONE);
        refusals.work(0, 0, 1, 0, 0, NONE);
        P.due("refused ones are not counted", refusals.work(0, 0, 0, 0, 0, 78), 79);
    }
}
