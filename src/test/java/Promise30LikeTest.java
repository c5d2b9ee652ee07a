/** Promise 30: like. Two WORKS of like KIND, MARKS that differ in so many bits at most, and spans that meet. */
public final class Promise30LikeTest {
    private static final Checks P = new Checks("promise 30, like");
    private static final int NONE = OrphanShelf.NONE;
    private static final int[] FAR = {Integer.MIN_VALUE, Integer.MAX_VALUE};

    public static void main(String[] args) {
        bitsThatDiffer();
        spansThatMeet();
        kinds();
        oneTwice();
        noSuchTwo();
        noSuchBits();
        P.end();
    }

    private static void bitsThatDiffer() {
        OrphanShelf x = new OrphanShelf();
        int[] marks = {0, 1, 128, 3, 0x55, 0x7f, 0xff, 0xaa};
        for (int m : marks) {
            x.work(0, 0, 0, 0, m, NONE);
        }
        for (int a = 0; a < marks.length; a++) {
            for (int b = 0; b < a; b++) {
                int differ = Integer.bitCount(marks[a] ^ marks[b]);
                P.due(a + " and " + b + " by just so many", x.like(a, b, differ), 1);
                P.due(b + " and " + a + " by just so many", x.like(b, a, differ), 1);
                P.due(a + " and " + b + " by one less", x.like(a, b, differ - 1), differ == 0 ? NONE : 0);
                P.due(a + " and " + b + " by eight", x.like(a, b, 8), 1);
            }
        }
        x.work(0, 0, 0, 0, 1, NONE);
        P.due("no bits", x.like(1, 8, 0), 1);
    }

    private static void spansThatMeet() {
        int[][] spans = {{10, 20}, {20, 30}, {21, 30}, {0, 10}, {0, 9}, {15, 15}, {0, 99999}, {10, 10}, {20, 20},
            {21, 21}, {9, 9}, {99999, 99999}};
        int[] meet = {1, 1, 0, 1, 0, 1, 1, 1, 1, 0, 0, 0};
        OrphanShelf x = new OrphanShelf();
        for (int[] span : spans) {
            x.work(3, 0, span[0], span[1], 7, NONE);
        }
        for (int w = 1; w < spans.length; w++) {
            P.due("10 to 20 and " + spans[w][0] + " to " + spans[w][1], x.like(0, w, 8), meet[w]);
            P.due(spans[w][0] + " to " + spans[w][1] + " and 10 to 20", x.like(w, 0, 8), meet[w]);
        }
    }

    private static void kinds() {
        OrphanShelf x = new OrphanShelf();
        for (int kind = 0; kind < 8; kind++) {
            x.work(kind, 0, 0, 0, 0, NONE);
            x.work(kind, 3, 0, 0, 0, kind == 7 ? NONE : 0);
        }
        for (int a = 0; a < 16; a++) {
            for (int b = 0; b < a; b++) {
                P.due("KINDS " + a / 2 + " and " + b / 2, x.like(a, b, 0), a / 2 == b / 2 ? 1 : 0);
            }
        }
    }

    private static void two(OrphanShelf x) {
        Shelves.works(x, 2);
    }

    private static void oneTwice() {
        P.isNone("the first twice", Promise30LikeTest::two, x -> x.like(0, 0, 8));
        P.isNone("the last twice", Promise30LikeTest::two, x -> x.like(1, 1, 0));
        P.due("two", Checks.made(Promise30LikeTest::two).like(0, 1, 0), 1);
    }

    private static void noSuchTwo() {
        for (int w : new int[] {-1, 2, 79, 80, FAR[0], FAR[1]}) {
            P.isNone("like(" + w + ", 0)", Promise30LikeTest::two, x -> x.like(w, 0, 8));
            P.isNone("like(0, " + w + ")", Promise30LikeTest::two, x -> x.like(0, w, 8));
            P.isNone("like(" + w + ", " + w + ")", Promise30LikeTest::two, x -> x.like(w, w, 8));
        }
    }

    private static void noSuchBits() {
        for (int bits : new int[] {-1, 9, FAR[0], FAR[1]}) {
            P.isNone(bits + " bits", Promise30LikeTest::two, x -> x.like(0, 1, bits));
        }
    }
}
