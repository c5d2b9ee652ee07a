/** Promise 23: agree. An OWNER agrees for a WORK, once; 200 may agree. */
public final class Promise23AgreeTest {
    private static final Checks P = new Checks("promise 23, agree");

    public static void main(String[] args) {
        forOneWork();
        noSuchOnes();
        itHas();
        twoHundred();
        P.end();
    }

    /** PERSONS 0 to 4; 0 and 4 have SHARES of the first and the last of fifty WORKS, and came; all may be used. */
    private static void shelf(OrphanShelf x) {
        Shelves.persons(x, 5);
        Shelves.works(x, 50);
        x.share(0, 0, 10);
        x.share(49, 4, 10);
        Shelves.law(x, 0, "p0");
        x.comes(0);
        x.comes(4);
        x.now(3);
    }

    private static void forOneWork() {
        OrphanShelf x = Checks.made(Promise23AgreeTest::shelf);
        P.due("has not agreed", x.ask(0, 0, 0, 0), -4);
        P.due("another one agrees", x.agree(4, 0), true);
        P.due("for another WORK", x.agree(0, 49), true);
        P.due("has not agreed yet", x.ask(0, 0, 0, 0), -4);
        P.due("agrees", x.agree(0, 0), true);
        P.due("has agreed", x.ask(0, 0, 0, 0), 0);
        P.due("the last WORK's has not", x.ask(0, 49, 0, 0), -4);
        P.due("agrees for the last WORK", x.agree(4, 49), true);
        P.due("has agreed now", x.ask(0, 49, 0, 0), 1);
        P.due("one who has no SHARE may", x.agree(2, 0), true);
    }

    private static void noSuchOnes() {
        for (int o : new int[] {-1, 5, 39, 40, Integer.MIN_VALUE, Integer.MAX_VALUE}) {
            P.isFalse("OWNER " + o, Promise23AgreeTest::shelf, x -> x.agree(o, 0));
        }
        for (int w : new int[] {-1, 50, 79, 80, Integer.MIN_VALUE, Integer.MAX_VALUE}) {
            P.isFalse("WORK " + w, Promise23AgreeTest::shelf, x -> x.agree(0, w));
        }
    }

    private static void itHas() {
        Checks.Making agreed = x -> {
            shelf(x);
            x.agree(0, 0);
        };
        P.isFalse("today", agreed, x -> x.agree(0, 0));
        P.isFalse("later", x -> {
            agreed.on(x);
            x.now(9);
        }, x -> x.agree(0, 0));
        OrphanShelf x = Checks.made(agreed);
        P.due("again", x.agree(0, 0), false);
        P.due("has agreed still", x.ask(0, 0, 0, 0), 0);
        P.due("for another WORK it may", x.agree(0, 1), true);
        P.due("another one may", x.agree(1, 0), true);
    }

    /** So many agree, each for the first time; not PERSON 0 for WORK 0, nor anybody for WORK 49. */
    private static int agreeing(OrphanShelf x, int n) {
        int taken = 0;
        for (int w = 0; w < 49 && taken < n; w++) {
            for (int o = 0; o < 5 && taken < n; o++) {
                if (o != 0 || w != 0) {
                    taken += x.agree(o, w) ? 1 : 0;
                }
            }
        }
        return taken;
    }

    private static void twoHundred() {
        OrphanShelf x = Checks.made(Promise23AgreeTest::shelf);
        P.due("199 agree", agreeing(x, 199), 199);
        P.due("one who has is refused", x.agree(1, 0), false);
        P.due("the 200th", x.agree(0, 0), true);
        P.due("it counts", x.ask(0, 0, 0, 0), 0);
        P.due("a 201st", x.agree(4, 49), false);
        P.due("it does not count", x.ask(0, 49, 0, 0), -4);
        Checks.Making full = y -> {
            shelf(y);
            agreeing(y, 200);
        };
        P.isFalse("a 201st for WORK 0", full, y -> y.agree(0, 0));
        P.isFalse("a 201st for WORK 49", full, y -> y.agree(4, 49));
        P.isFalse("one of the 200 again", full, y -> y.agree(1, 0));
    }
}
