/** Promise 32: joined. WORKS on one list by numbers, each with the first LIKE one on the other, not with one yet. */
public final class Promise32JoinedTest {
    private static final Checks P = new Checks("promise 32, joined");
    private static final int NONE = OrphanShelf.NONE;
    private static final int[] FAR = {Integer.MIN_VALUE, Integer.MAX_VALUE};

    public static void main(String[] args) {
        byNumbers();
        notWithOneYet();
        anotherWork();
        emptyLists();
        allWorks();
        noneSuch();
        noSuchOnes();
        noSuchLands();
        oneLand();
        P.end();
    }

    private static void pairs(OrphanShelf x, int a, int b, int bits, int... works) {
        for (int i = 0; i < works.length; i++) {
            P.due("pair " + i / 2 + " side " + i % 2, x.joined(a, b, bits, i / 2, i % 2), works[i]);
        }
        P.due("no more pairs", x.joined(a, b, bits, works.length / 2, 0), NONE);
        P.due("no more pairs, the other side", x.joined(a, b, bits, works.length / 2, 1), NONE);
    }

    private static void byNumbers() {
        OrphanShelf x = new OrphanShelf();
        int[] marks = {0, 0, 1, 3, 0, 7, 0};
        for (int m : marks) {
            x.work(0, 0, 0, 0, m, NONE);
        }
        for (int w : new int[] {4, 2, 0}) {
            x.list(w, 0);
        }
        for (int w : new int[] {6, 5, 3, 1}) {
            x.list(w, 3);
        }
        pairs(x, 0, 3, 0, 0, 1, 4, 6);
        pairs(x, 0, 3, 1, 0, 1, 2, 3, 4, 6);
        pairs(x, 0, 3, 2, 0, 1, 2, 3, 4, 6);
        pairs(x, 3, 0, 0, 1, 0, 6, 4);
        pairs(x, 3, 0, 1, 1, 0, 3, 2, 6, 4);
        pairs(x, 3, 0, 8, 1, 0, 3, 2, 5, 4);
    }

    private static void notWithOneYet() {
        OrphanShelf x = new OrphanShelf();
        Shelves.works(x, 5);
        x.work(1, 0, 0, 0, 0, NONE);
        x.work(0, 0, 1, 1, 0, NONE);
        for (int w = 0; w < 3; w++) {
            x.list(w, 1);
        }
        x.list(3, 2);
        x.list(5, 2);
        x.list(6, 2);
        pairs(x, 1, 2, 8, 0, 3);
        x.list(4, 2);
        pairs(x, 1, 2, 8, 0, 3, 1, 4);
        pairs(x, 2, 1, 8, 3, 0, 4, 1);
    }

    private static void anotherWork() {
        OrphanShelf x = new OrphanShelf();
        Shelves.works(x, 2);
        x.list(0, 1);
        x.list(0, 2);
        pairs(x, 1, 2, 8);
        x.list(1, 2);
        pairs(x, 1, 2, 8, 0, 1);
        pairs(x, 2, 1, 8, 1, 0);
        x.list(1, 1);
        pairs(x, 1, 2, 8, 0, 1, 1, 0);
    }

    private static void emptyLists() {
        OrphanShelf x = new OrphanShelf();
        pairs(x, 0, 1, 8);
        Shelves.works(x, 2);
        pairs(x, 0, 1, 8);
        x.list(0, 0);
        pairs(x, 0, 1, 8);
        pairs(x, 1, 0, 8);
        x.list(1, 1);
        pairs(x, 0, 1, 8, 0, 1);
        pairs(x, 1, 0, 8, 1, 0);
        pairs(x, 0, 2, 8);
    }

    private static void allWorks() {
        OrphanShelf x = new OrphanShelf();
        Shelves.works(x, 80);
        for (int w = 0; w < 80; w++) {
            x.list(w, w % 2);
        }
        P.due("the last two", x.joined(0, 1, 0, 39, 0), 78);
        P.due("its other one", x.joined(0, 1, 0, 39, 1), 79);
        P.due("no more", x.joined(0, 1, 0, 40, 1), NONE);
    }

    /** WORKS 0 and 1 differ in a bit; 0 is on the list of LAND 0, both are on that of LAND 3. */
    private static void shelf(OrphanShelf x) {
        x.work(0, 0, 0, 0, 1, NONE);
        x.work(0, 0, 0, 0, 0, NONE);
        x.list(0, 0);
        x.list(0, 3);
        x.list(1, 3);
    }

    private static void noneSuch() {
        for (int i : new int[] {-1, 1, 80, FAR[0], FAR[1]}) {
            P.isNone("two " + i, Promise32JoinedTest::shelf, x -> x.joined(0, 3, 1, i, 0));
            P.isNone("two " + i + ", the other side", Promise32JoinedTest::shelf, x -> x.joined(0, 3, 1, i, 1));
        }
        P.isNone("not LIKE by so few bits", Promise32JoinedTest::shelf, x -> x.joined(0, 3, 0, 0, 0));
        P.due("LIKE by one bit", Checks.made(Promise32JoinedTest::shelf).joined(0, 3, 1, 0, 1), 1);
    }

    private static void noSuchOnes() {
        for (int land : new int[] {-1, 4, FAR[0], FAR[1]}) {
            P.isNone("LAND " + land + " first", Promise32JoinedTest::shelf, x -> x.joined(land, 3, 1, 0, 0));
            P.isNone("LAND " + land + " second", Promise32JoinedTest::shelf, x -> x.joined(0, land, 1, 0, 0));
        }
        for (int bits : new int[] {-1, 9, FAR[0], FAR[1]}) {
            P.isNone(bits + " bits", Promise32JoinedTest::shelf, x -> x.joined(0, 3, bits, 0, 0));
        }
        for (int what : new int[] {-1, 2, FAR[0], FAR[1]}) {
            P.isNone("what " + what, Promise32JoinedTest::shelf, x -> x.joined(0, 3, 1, 0, what));
        }
        P.due("eight bits", Checks.made(Promise32JoinedTest::shelf).joined(0, 3, 8, 0, 0), 0);
    }

    /** Numbers that are those of a LAND in their lowest bits are none, too. */
    private static void noSuchLands() {
        Checks.Making all = x -> {
            Shelves.works(x, 3);
            for (int w = 0; w < 3; w++) {
                for (int land = 0; land < 4; land++) {
                    x.list(w, land);
                }
            }
        };
        for (int land : new int[] {-1, -29, -32, 4, 8, 32, 33, 35, 64, 256, 65536, FAR[0], FAR[0] + 3, FAR[1]}) {
            P.isNone("LAND " + land + " and 1", all, x -> x.joined(land, 1, 8, 0, 0));
            P.isNone("1 and LAND " + land, all, x -> x.joined(1, land, 8, 0, 0));
        }
        P.due("LANDS 0 and 1", Checks.made(all).joined(0, 1, 8, 0, 1), 1);
    }

    private static void oneLand() {
        P.isNone("one LAND", Promise32JoinedTest::shelf, x -> x.joined(3, 3, 8, 0, 0));
        P.isNone("one LAND, 0", Promise32JoinedTest::shelf, x -> x.joined(0, 0, 8, 0, 0));
    }
}
