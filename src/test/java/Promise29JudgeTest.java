/** Promise 29: judge. EXPECTED of an order by the first n bytes of the tape, which is empty then. */
public final class Promise29JudgeTest {
    private static final Checks P = new Checks("promise 29, judge");
    private static final int NONE = OrphanShelf.NONE;
    private static final int[] FAR = {Integer.MIN_VALUE, Integer.MAX_VALUE};

    public static void main(String[] args) {
        everyOrder();
        notJustThose();
        noneAtAll();
        theLowestEight();
        whatIsLookedThrough();
        today();
        emptyThen();
        itHasNotSoMany();
        noSuchWorkOrLand();
        P.end();
    }

    /** SOURCES 2, 5 and 9 are wanted. */
    private static void shelf(OrphanShelf x) {
        Shelves.works(x, 1);
        Shelves.law(x, 0, "s2;s5;s9");
        Shelves.source(x, 2, 3, 33);
        Shelves.source(x, 5, 7, 50);
        Shelves.source(x, 9, 11, 1);
    }

    private static long judged(OrphanShelf x, int... order) {
        Shelves.feedBytes(x, order);
        return x.judge(0, 0, order.length);
    }

    private static void everyOrder() {
        OrphanShelf x = Checks.made(Promise29JudgeTest::shelf);
        P.due("2, 5, 9", judged(x, 2, 5, 9), 3 * 1000000 + 7 * 670000 + 11 * 335000);
        P.due("2, 9, 5", judged(x, 2, 9, 5), 3 * 1000000 + 11 * 670000 + 7 * 663300);
        P.due("5, 2, 9", judged(x, 5, 2, 9), 7 * 1000000 + 3 * 500000 + 11 * 335000);
        P.due("5, 9, 2", judged(x, 5, 9, 2), 7 * 1000000 + 11 * 500000 + 3 * 495000);
        P.due("9, 2, 5", judged(x, 9, 2, 5), 11 * 1000000 + 3 * 990000 + 7 * 663300);
        P.due("9, 5, 2", judged(x, 9, 5, 2), 11 * 1000000 + 7 * 990000 + 3 * 495000);
        for (int s : new int[] {2, 5, 9}) {
            Shelves.source(x, s, 1, 99);
        }
        Shelves.law(x, 0, "s0");
        Shelves.source(x, 0, 1, 0);
        P.due("rounded down", judged(x, 2, 5, 9, 0), 1000000 + 10000 + 100 + 1);
    }

    private static void notJustThose() {
        int[][] wrong = {{9, 2}, {9}, {9, 2, 5, 5}, {9, 2, 5, 4}, {9, 2, 5, 0}, {9, 2, 2}, {9, 2, 4}, {9, 2, 12},
            {9, 2, 255}, {9, 9, 9}, {2, 5, 9, 2, 5, 9, 2, 5, 9, 2, 5, 9}, {2, 5, 11}, {2, 5, 8}, {34, 37, 41}};
        for (int[] order : wrong) {
            P.isLike("not just those", x -> {
                shelf(x);
                Shelves.feedBytes(x, order);
            }, x -> x.judge(0, 0, order.length), -2, Promise29JudgeTest::shelf);
        }
    }

    private static void noneAtAll() {
        OrphanShelf x = Checks.made(Promise29JudgeTest::shelf);
        P.due("no bytes for three", x.judge(0, 0, 0), -2);
        P.due("nothing to look through", x.judge(0, 3, 0), 0);
        Shelves.feedBytes(x, 2, 5, 9);
        P.due("no bytes of some for three", x.judge(0, 0, 0), -2);
        Shelves.feedBytes(x, 2, 5, 9);
        P.due("some where nothing is wanted", x.judge(0, 3, 1), -2);
    }

    private static void theLowestEight() {
        OrphanShelf x = new OrphanShelf();
        Shelves.works(x, 1);
        Shelves.law(x, 0, "s0;s1;s2;s3;s4;s5;s6;s7;s8;s9");
        for (int s = 0; s < 12; s++) {
            Shelves.source(x, s, 10000, 0);
        }
        P.due("the lowest eight", judged(x, 7, 6, 5, 4, 3, 2, 1, 0), 80000000000L);
        P.due("nine", judged(x, 7, 6, 5, 4, 3, 2, 1, 0, 8), -2);
        P.due("ten", judged(x, 0, 1, 2, 3, 4, 5, 6, 7, 8, 9), -2);
        P.due("eight others", judged(x, 2, 3, 4, 5, 6, 7, 8, 9), -2);
        P.due("seven", judged(x, 0, 1, 2, 3, 4, 5, 6), -2);
        P.due("eight, one twice", judged(x, 0, 1, 2, 3, 4, 5, 6, 6), -2);
        P.due("nine, one twice", judged(x, 0, 1, 2, 3, 4, 5, 6, 7, 7), -2);
    }

    private static void whatIsLookedThrough() {
        OrphanShelf x = Checks.made(Promise29JudgeTest::shelf);
        x.look(0, 5, 0, NONE);
        P.due("with one that is", judged(x, 2, 5, 9), -2);
        P.due("without it", judged(x, 9, 2), 11 * 1000000 + 3 * 990000);
        x.look(0, 2, 0, NONE);
        x.look(0, 9, 0, NONE);
        P.due("none is left", x.judge(0, 0, 0), 0);
    }

    private static void today() {
        OrphanShelf x = Checks.made(Promise29JudgeTest::shelf);
        Shelves.law(x, 0, "a10");
        Shelves.law(x, 0, 31, 31, "s0");
        x.now(30);
        x.look(0, 5, 19, NONE);
        P.due("11 DAYS ago", judged(x, 9, 2), -2);
        x.look(0, 5, 20, NONE);
        P.due("10 DAYS ago", judged(x, 9, 2), 11 * 1000000 + 3 * 990000);
        P.due("with it", judged(x, 2, 5, 9), -2);
        x.now(31);
        Shelves.source(x, 0, 1, 0);
        P.due("without what is too old and a LAW's of today", judged(x, 9, 2), -2);
        P.due("with both", judged(x, 0, 5, 9, 2), 1000000 + 7 * 1000000 + 11 * 500000 + 3 * 495000);
    }

    private static void emptyThen() {
        OrphanShelf x = Checks.made(Promise29JudgeTest::shelf);
        Shelves.feedBytes(x, 9, 2, 5, 0);
        P.due("the first three of twenty", x.judge(0, 0, 3), 11 * 1000000 + 3 * 990000 + 7 * 663300);
        P.due("empty", x.count(8), 0);
        P.due("nothing to judge any more", x.judge(0, 0, 3), NONE);
        Shelves.feedBytes(x, 9, 2, 5);
        P.due("not just those", x.judge(0, 0, 2), -2);
        P.due("empty then too", x.count(8), 0);
        Shelves.feed(x, "a1");
        P.due("from the beginning again", x.law(0, 0, 9, 2), 1);
    }

    private static void fed(OrphanShelf x) {
        shelf(x);
        Shelves.feedBytes(x, 9, 2, 5);
    }

    private static void itHasNotSoMany() {
        for (int n : new int[] {-1, 21, 200, 201, FAR[0], FAR[1]}) {
            P.isNone(n + " bytes of twenty", Promise29JudgeTest::fed, x -> x.judge(0, 0, n));
        }
        P.isNone("one byte of none", Promise29JudgeTest::shelf, x -> x.judge(0, 0, 1));
        OrphanShelf x = Checks.made(Promise29JudgeTest::fed);
        x.judge(0, 0, 21);
        P.due("the tape stays", x.count(8), 20);
        P.due("as it was", x.judge(0, 0, 3), 11 * 1000000 + 3 * 990000 + 7 * 663300);
        Checks.Making full = y -> {
            shelf(y);
            for (int i = 0; i < 10; i++) {
                Shelves.feedBytes(y, 9, 2, 5);
            }
        };
        P.due("all of 200", Checks.made(full).judge(0, 0, 200), -2);
        P.isNone("201 of 200", full, y -> y.judge(0, 0, 201));
    }

    private static void noSuchWorkOrLand() {
        for (int w : new int[] {-1, 1, 79, 80, FAR[0], FAR[1]}) {
            P.isNone("WORK " + w, Promise29JudgeTest::fed, x -> x.judge(w, 0, 3));
        }
        for (int land : new int[] {-1, 4, FAR[0], FAR[1]}) {
            P.isNone("LAND " + land, Promise29JudgeTest::fed, x -> x.judge(0, land, 3));
        }
    }
}
