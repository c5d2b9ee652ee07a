/** Promise 7: share. Up to four OWNERS, each with hundredths (1 to 100; together 100 at most). */
public final class Promise07ShareTest {
    private static final Checks P = new Checks("promise 7, share");
    private static final int NONE = OrphanShelf.NONE;

    public static void main(String[] args) {
        oneToAHundred();
        noSuchOnes();
        togetherAHundred();
        four();
        hasOne();
        everyWork();
        P.end();
    }

    /** Six PERSONS, three WORKS; WORK 0 is 40 hundredths PERSON 0's. */
    private static void shelf(OrphanShelf x) {
        Shelves.persons(x, 6);
        Shelves.works(x, 3);
        x.share(0, 0, 40);
    }

    private static void oneToAHundred() {
        OrphanShelf x = Checks.made(Promise07ShareTest::shelf);
        P.due("1 hundredth", x.share(1, 0, 1), true);
        P.due("all hundred", x.share(2, 0, 100), true);
        P.due("who holds it", x.holds(2, 0, 0, 0), 0);
        P.due("SHARES", x.count(42), 1);
        for (int part : new int[] {0, -1, 101, Integer.MIN_VALUE, Integer.MAX_VALUE}) {
            P.isFalse(part + " hundredths", Promise07ShareTest::shelf, y -> y.share(1, 1, part));
            P.isFalse(part + " hundredths more", Promise07ShareTest::shelf, y -> y.share(0, 1, part));
        }
    }

    private static void noSuchOnes() {
        for (int w : new int[] {-1, 3, 79, 80, Integer.MIN_VALUE, Integer.MAX_VALUE}) {
            P.isFalse("WORK " + w, Promise07ShareTest::shelf, x -> x.share(w, 1, 10));
        }
        for (int o : new int[] {-1, 6, 39, 40, Integer.MIN_VALUE, Integer.MAX_VALUE}) {
            P.isFalse("OWNER " + o, Promise07ShareTest::shelf, x -> x.share(0, o, 10));
        }
    }

    private static void togetherAHundred() {
        OrphanShelf x = Checks.made(Promise07ShareTest::shelf);
        P.due("61 more", x.share(0, 1, 61), false);
        P.due("60 more", x.share(0, 1, 60), true);
        P.due("1 more", x.share(0, 2, 1), false);
        P.due("of another WORK", x.share(1, 2, 100), true);
        P.isFalse("101 of two", Promise07ShareTest::shelf, y -> y.share(0, 1, 61));
        P.isFalse("140 of two", Promise07ShareTest::shelf, y -> y.share(0, 1, 100));
        Checks.Making three = y -> {
            shelf(y);
            y.share(0, 1, 30);
            y.share(0, 2, 20);
        };
        P.isFalse("101 of four", three, y -> y.share(0, 3, 11));
        OrphanShelf taken = Checks.made(three);
        P.due("101 of four", taken.share(0, 3, 11), false);
        P.due("100 of four", taken.share(0, 3, 10), true);
        Checks.Making all = y -> {
            shelf(y);
            y.share(1, 0, 100);
        };
        P.isFalse("behind all hundred", all, y -> y.share(1, 1, 1));
    }

    private static void four() {
        Checks.Making made = x -> {
            shelf(x);
            x.share(0, 1, 1);
            x.share(0, 2, 1);
            x.share(0, 3, 1);
        };
        OrphanShelf x = Checks.made(made);
        P.due("SHARES", x.count(40), 4);
        for (int i = 0; i < 4; i++) {
            P.due("SHARE " + i + " in the order of telling", x.holds(0, i, 0, 0), i);
        }
        P.due("no fifth", x.holds(0, 4, 0, 0), NONE);
        P.isFalse("a fifth, with hundredths left", made, y -> y.share(0, 4, 1));
        P.due("of another WORK", x.share(1, 4, 1), true);
        P.due("a fourth behind a refused one", third().share(0, 3, 30), true);
    }

    private static OrphanShelf third() {
        OrphanShelf x = Checks.made(Promise07ShareTest::shelf);
        x.share(0, 1, 20);
        x.share(0, 2, 10);
        P.due("a fourth that is too much", x.share(0, 3, 31), false);
        return x;
    }

    private static void hasOne() {
        P.isFalse("the first one has one", Promise07ShareTest::shelf, x -> x.share(0, 0, 1));
        Checks.Making made = x -> {
            shelf(x);
            x.share(0, 1, 1);
        };
        P.isFalse("the second one has one", made, x -> x.share(0, 1, 1));
        OrphanShelf x = Checks.made(made);
        P.due("one of another WORK", x.share(1, 0, 1), true);
    }

    private static void everyWork() {
        OrphanShelf x = new OrphanShelf();
        Shelves.persons(x, 4);
        Shelves.works(x, 80);
        for (int i = 0; i < 4; i++) {
            P.due("the last WORK's SHARE " + i, x.share(79, i, 25), true);
            P.due("the first WORK's SHARE " + i, x.share(0, 3 - i, 25), true);
        }
        P.due("the last one's last", x.holds(79, 3, 0, 0), 3);
        P.due("the first one's last", x.holds(0, 3, 0, 0), 0);
        P.due("of the one ahead of the last", x.count(118), 0);
    }
}
