/** Promise 9: feed. Twenty bytes come behind the tape, the highest of each int first; 200 at most. */
public final class Promise09FeedTest {
    private static final Checks P = new Checks("promise 9, feed");
    private static final int NONE = OrphanShelf.NONE;

    public static void main(String[] args) {
        howManyItHas();
        moreThanTwoHundred();
        theHighestFirst();
        behindTheTape();
        everyByte();
        emptiedAndFedAgain();
        P.end();
    }

    private static void tens(OrphanShelf x, int n) {
        for (int i = 0; i < n; i++) {
            x.feed(0x61313b61, 0x313b6131, 0x3b61313b, 0x61313b61, 0x313b6131);
        }
    }

    private static void howManyItHas() {
        OrphanShelf x = new OrphanShelf();
        for (int i = 1; i <= 10; i++) {
            P.due("feed " + i, x.feed(i, 0, -1, Integer.MIN_VALUE, Integer.MAX_VALUE), 20 * i);
            P.due("bytes of the tape", x.count(8), 20 * i);
        }
    }

    private static void moreThanTwoHundred() {
        OrphanShelf x = Checks.made(y -> tens(y, 10));
        P.due("an eleventh", x.feed(0, 0, 0, 0, 0), NONE);
        P.due("bytes of the tape", x.count(8), 200);
        P.isNone("an eleventh is refused", y -> tens(y, 10), y -> y.feed(0, 0, 0, 0, 0));
        P.due("the first twenty are as they were", x.law(0, 0, 9, 20), 0);
    }

    private static void theHighestFirst() {
        OrphanShelf x = new OrphanShelf();
        Shelves.works(x, 1);
        x.feed(0x73303b73, 0x313b7332, 0x3b73333b, 0x73343b73, 0x353b7336);
        P.due("s0;s1;s2;s3;s4;s5;s6", x.law(0, 0, 9, 20), 0);
        P.due("its SOURCES", x.number(0, 0, 0, 0, 7), 0x7f);
        int[] cost = {1, 20, 300, 4000, 10000, 7, 90};
        long sum = 0;
        for (int s = 0; s < 7; s++) {
            Shelves.source(x, s, cost[s], 0);
            sum += cost[s] * 1000000L;
        }
        x.feed(0x00010203, 0x04050600, 0, 0, 0);
        P.due("an order", x.judge(0, 0, 7), sum);
        for (int s = 0; s < 7; s++) {
            Shelves.source(x, s, 100, 10 * s + 10);
        }
        long expected = 0;
        long r = 1000000;
        for (int s : new int[] {3, 2, 1, 0, 6, 5, 4}) {
            expected += 100 * r;
            r = r * (90 - 10 * s) / 100;
        }
        x.feed(0x03020100, 0x06050400, 0, 0, 0);
        P.due("just in that order", x.judge(0, 0, 7), expected);
    }

    /** A fault's place tells where each of the five ints has come. */
    private static void behindTheTape() {
        for (int at = 0; at < 5; at++) {
            OrphanShelf x = new OrphanShelf();
            tens(x, 1);
            int[] row = {0x3b61313b, 0x61313b61, 0x313b6131, 0x3b61313b, 0x61313b61};
            row[at] = 0x20202020;
            x.feed(row[0], row[1], row[2], row[3], row[4]);
            P.due("a blank in int " + at, x.law(0, 0, 9, 40), -1020 - 4 * at);
        }
        OrphanShelf x = new OrphanShelf();
        tens(x, 1);
        x.feed(0, 0, 0, 0, 0);
        P.due("the first twenty stay ahead", x.law(0, 0, 9, 20), 0);
    }

    private static void everyByte() {
        for (int b = 0; b < 256; b++) {
            OrphanShelf x = new OrphanShelf();
            Shelves.works(x, 1);
            Shelves.law(x, 0, "s11");
            Shelves.source(x, 11, 3, 0);
            x.feed(b << 24, -1, -1, -1, -1);
            P.due("byte " + b + " as a SOURCE", x.judge(0, 0, 1), b == 11 ? 3000000 : -2);
        }
    }

    private static void emptiedAndFedAgain() {
        OrphanShelf x = new OrphanShelf();
        for (int i = 0; i < 3; i++) {
            tens(x, 10);
            P.due("full", x.feed(0, 0, 0, 0, 0), NONE);
            P.due("a LAW of the first two bytes", x.law(0, 0, 9, 2), i);
            P.due("from the beginning again", x.feed(0x61310000, 0, 0, 0, 0), 20);
            P.due("what was there is gone", x.law(0, 0, 9, 3), -1002);
        }
    }
}
