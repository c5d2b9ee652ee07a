import java.util.Arrays;
import java.util.Random;

/** Promise 28: cheapest. EXPECTED of THE ORDER (of least EXPECTED; of like ones the least row), or its SOURCES. */
public final class Promise28CheapestTest {
    private static final Checks P = new Checks("promise 28, cheapest");
    private static final int NONE = OrphanShelf.NONE;
    private static final int[] FAR = {Integer.MIN_VALUE, Integer.MAX_VALUE};

    public static void main(String[] args) {
        nothingToLookThrough();
        ofTwo();
        surelyAndNever();
        whatIsLookedThrough();
        asKnownNow();
        notForWhatItLiesIn();
        theLeastRow();
        theLowestEight();
        theMost();
        roundedDown();
        drawnCosts();
        toldAnew();
        noSuchOnes();
        P.end();
    }

    private static void cheapest(OrphanShelf x, String at, long expected, int... order) {
        P.due(at + ": expected", x.cheapest(0, 0, NONE), expected);
        for (int i = 0; i < order.length; i++) {
            P.due(at + ": " + i, x.cheapest(0, 0, i), order[i]);
        }
        P.due(at + ": no more", x.cheapest(0, 0, order.length), NONE);
    }

    private static OrphanShelf shelf(String law) {
        OrphanShelf x = new OrphanShelf();
        Shelves.works(x, 1);
        Shelves.law(x, 0, law);
        return x;
    }

    private static void nothingToLookThrough() {
        OrphanShelf x = new OrphanShelf();
        Shelves.works(x, 1);
        cheapest(x, "no LAW", 0);
        Shelves.law(x, 0, "s3(k=1)");
        cheapest(x, "nothing that holds", 0);
        Shelves.law(x, 0, "s3");
        x.source(3, 5);
        cheapest(x, "one", 5000000, 3);
        x.look(0, 3, 0, NONE);
        cheapest(x, "looked through", 0);
    }

    private static void ofTwo() {
        OrphanShelf x = shelf("s3;s7");
        cheapest(x, "for nothing", 0, 3, 7);
        Shelves.source(x, 3, 100, 10);
        Shelves.source(x, 7, 100, 50);
        cheapest(x, "the better one first", 150000000L, 7, 3);
        Shelves.source(x, 3, 21, 10);
        cheapest(x, "the better one still", 100 * 1000000L + 21 * 500000L, 7, 3);
        Shelves.source(x, 3, 20, 10);
        cheapest(x, "like ones: the least row", 20 * 1000000L + 100 * 900000L, 3, 7);
        Shelves.source(x, 3, 19, 10);
        cheapest(x, "the cheaper one first", 19 * 1000000L + 100 * 900000L, 3, 7);
        x.chance(7, 1, 100);
        cheapest(x, "hundredths of another KIND", 19 * 1000000L + 100 * 900000L, 3, 7);
    }

    private static void surelyAndNever() {
        OrphanShelf x = shelf("s0;s1;s2;s3");
        for (int s = 0; s < 4; s++) {
            Shelves.source(x, s, 40 - s, 0);
        }
        cheapest(x, "none finds: all orders are alike", (40 + 39 + 38 + 37) * 1000000L, 0, 1, 2, 3);
        x.source(2, 0);
        cheapest(x, "one for nothing", (40 + 39 + 37) * 1000000L, 0, 1, 2, 3);
        x.chance(2, 0, 1);
        cheapest(x, "one for nothing that may find", (40 + 39 + 37) * 990000L, 2, 0, 1, 3);
        x.chance(3, 0, 100);
        cheapest(x, "nothing behind what is sure", 37 * 990000L, 2, 3, 0, 1);
        x.chance(2, 0, 100);
        cheapest(x, "sure for nothing", 0, 2, 0, 1, 3);
    }

    private static void whatIsLookedThrough() {
        OrphanShelf x = shelf("s0;s1;a10");
        x.work(0, 0, 0, 0, 0, NONE);
        Shelves.source(x, 0, 5, 10);
        Shelves.source(x, 1, 7, 10);
        x.now(20);
        long both = 5 * 1000000 + 7 * 900000;
        x.look(1, 0, 20, NONE);
        cheapest(x, "for another WORK", both, 0, 1);
        x.look(0, 0, 9, NONE);
        cheapest(x, "11 DAYS ago", both, 0, 1);
        x.look(0, 0, 10, NONE);
        cheapest(x, "10 DAYS ago", 7000000, 1);
        x.now(21);
        cheapest(x, "11 DAYS ago today", both, 0, 1);
        x.look(0, 0, 21, NONE);
        x.look(0, 1, 21, NONE);
        cheapest(x, "all, today", 0);
    }

    private static void asKnownNow() {
        OrphanShelf x = shelf("s0(f=0);s1(f=1);a0(f=0);a5(f=1)");
        x.source(0, 5);
        x.source(1, 7);
        Shelves.persons(x, 1);
        x.share(0, 0, 10);
        x.now(20);
        x.look(0, 1, 14, NONE);
        cheapest(x, "nobody is found", 5000000, 0);
        x.look(0, 3, 20, 0);
        cheapest(x, "one who is found today", 7000000, 1);
        x.look(0, 1, 15, NONE);
        cheapest(x, "looked through, told today", 0);
        x.now(21);
        cheapest(x, "too old the DAY behind", 7000000, 1);
    }

    private static void notForWhatItLiesIn() {
        OrphanShelf x = shelf("s0(j=0);s1(j=1)");
        x.work(1, 0, 0, 0, 0, 0);
        x.source(0, 5);
        x.source(1, 7);
        P.due("its own", x.cheapest(1, 0, NONE), 7000000);
        P.due("its own SOURCE", x.cheapest(1, 0, 0), 1);
        P.due("one alone", x.cheapest(1, 0, 1), NONE);
        x.look(1, 1, 0, NONE);
        P.due("looked through", x.cheapest(1, 0, NONE), 0);
        P.due("what it lies in is not", x.cheapest(0, 0, NONE), 5000000);
        P.due("in another LAND", x.cheapest(0, 1, NONE), 0);
    }

    private static void theLeastRow() {
        OrphanShelf x = shelf("s11;s10;s9;s8;s7;s6;s5;s4");
        for (int s = 4; s < 12; s++) {
            Shelves.source(x, s, 10, 50);
        }
        long expected = 0;
        long r = 1000000;
        for (int i = 0; i < 8; i++) {
            expected += 10 * r;
            r /= 2;
        }
        cheapest(x, "all alike", expected, 4, 5, 6, 7, 8, 9, 10, 11);
        x.chance(11, 0, 51);
        P.due("the one that is better", x.cheapest(0, 0, 0), 11);
        P.due("and the least row behind it", x.cheapest(0, 0, 1), 4);
    }

    private static void theLowestEight() {
        OrphanShelf x = shelf("s0;s1;s2;s3;s4;s5;s6;s7");
        for (int s = 0; s < 12; s++) {
            Shelves.source(x, s, 10000, 0);
        }
        cheapest(x, "eight", 80000000000L, 0, 1, 2, 3, 4, 5, 6, 7);
        Shelves.law(x, 0, "s8;s9;s10;s11");
        x.chance(8, 0, 100);
        cheapest(x, "eight of twelve", 80000000000L, 0, 1, 2, 3, 4, 5, 6, 7);
        x.look(0, 7, 0, NONE);
        cheapest(x, "the ninth comes up", 10000000000L, 8, 0, 1, 2, 3, 4, 5, 6);
        x.look(0, 0, 0, NONE);
        x.look(0, 3, 0, NONE);
        cheapest(x, "others come up", 10000000000L, 8, 1, 2, 4, 5, 6, 9, 10);
        x.look(0, 8, 0, NONE);
        cheapest(x, "the last one comes up", 80000000000L, 1, 2, 4, 5, 6, 9, 10, 11);
        x.look(0, 1, 0, NONE);
        cheapest(x, "seven are left", 70000000000L, 2, 4, 5, 6, 9, 10, 11);
    }

    private static void theMost() {
        OrphanShelf x = shelf("s0;s1;s2;s3;s4;s5;s6;s7");
        long expected = 0;
        for (int s = 0; s < 8; s++) {
            Shelves.source(x, s, 10000, 1);
        }
        long r = 1000000;
        for (int i = 0; i < 8; i++) {
            expected += 10000 * r;
            r = r * 99 / 100;
        }
        cheapest(x, "eight of the dearest", expected, 0, 1, 2, 3, 4, 5, 6, 7);
    }

    /** The least EXPECTED of all orders, the least row first; bestRow has its row. */
    private static long brute(int[] cost, int[] chance, int[] row, int depth, long[] best, int[] bestRow) {
        if (depth == row.length) {
            long sum = 0;
            long r = 1000000;
            for (int s : row) {
                sum += cost[s] * r;
                r = r * (100 - chance[s]) / 100;
            }
            if (sum < best[0]) {
                best[0] = sum;
                System.arraycopy(row, 0, bestRow, 0, row.length);
            }
            return best[0];
        }
        for (int s = 0; s < row.length; s++) {
            boolean used = false;
            for (int i = 0; i < depth; i++) {
                used = used || row[i] == s;
            }
            if (!used) {
                row[depth] = s;
                brute(cost, chance, row, depth + 1, best, bestRow);
            }
        }
        return best[0];
    }

    private static void allOrders(int[] cost, int[] chance) {
        allOrders(wanting(cost.length), cost, chance);
    }

    private static OrphanShelf wanting(int sources) {
        StringBuilder text = new StringBuilder("s0");
        for (int s = 1; s < sources; s++) {
            text.append(";s").append(s);
        }
        return shelf(text.toString());
    }

    private static void allOrders(OrphanShelf x, int[] cost, int[] chance) {
        for (int s = 0; s < cost.length; s++) {
            Shelves.source(x, s, cost[s], chance[s]);
        }
        int[] order = new int[cost.length];
        long[] best = {Long.MAX_VALUE};
        long expected = brute(cost, chance, new int[cost.length], 0, best, order);
        cheapest(x, "all orders of " + Arrays.toString(cost) + Arrays.toString(chance), expected, order);
    }

    /** Where COSTS go with chances, all orders are alike but for what is rounded down. */
    private static void roundedDown() {
        OrphanShelf x = shelf("s0;s1;s2;s3");
        for (int s = 0; s < 4; s++) {
            Shelves.source(x, s, 1, 99);
        }
        cheapest(x, "down to nothing", 1000000 + 10000 + 100 + 1, 0, 1, 2, 3);
        Shelves.source(x, 1, 1, 33);
        Shelves.source(x, 2, 1, 33);
        cheapest(x, "each time", 1000000 + 10000 + 100 + 67, 0, 3, 1, 2);
        allOrders(new int[] {10, 30, 70, 90, 130, 110}, new int[] {1, 3, 7, 9, 13, 11});
        allOrders(new int[] {110, 130, 90, 70, 30, 10, 170, 190}, new int[] {11, 13, 9, 7, 3, 1, 17, 19});
        allOrders(new int[] {9999, 10000, 9998, 10000}, new int[] {99, 99, 99, 98});
        // The best of these are lost if an order is given up that rounding could still make the cheapest.
        allOrders(new int[] {2099, 3900, 1499, 2501, 8200, 3200}, new int[] {21, 39, 15, 25, 82, 32});
        allOrders(new int[] {1100, 700, 2500, 1150, 500}, new int[] {22, 14, 50, 23, 10});
        allOrders(new int[] {4416, 1536, 2368, 5120, 896, 960}, new int[] {69, 24, 37, 80, 14, 15});
        allOrders(new int[] {10000, 100, 100, 100, 100}, new int[] {100, 1, 1, 1, 1});
    }

    private static void drawnCosts() {
        Random random = new Random(815);
        for (int i = 0; i < 120; i++) {
            int n = 1 + random.nextInt(8);
            int[] cost = new int[n];
            int[] chance = new int[n];
            int mode = random.nextInt(5);
            for (int s = 0; s < n; s++) {
                chance[s] = mode == 0 ? 100 * random.nextInt(2) : random.nextInt(mode == 1 ? 3 : 101);
                cost[s] = mode == 2 ? chance[s] * 7 : mode == 3 ? random.nextInt(3) : random.nextInt(10001);
            }
            allOrders(cost, chance);
        }
        // Eight whose COSTS go with their chances: what is rounded down alone decides.
        for (int i = 0; i < 60; i++) {
            int[] cost = new int[8];
            int[] chance = new int[8];
            int times = 1 + random.nextInt(100);
            for (int s = 0; s < 8; s++) {
                chance[s] = 1 + random.nextInt(i % 2 == 0 ? 99 : 9);
                cost[s] = chance[s] * times;
            }
            allOrders(cost, chance);
        }
    }

    /** On one shelf, again and again: what was reckoned for other COSTS and chances does not count any more. */
    private static void toldAnew() {
        Random random = new Random(4711);
        for (int shelves = 0; shelves < 4; shelves++) {
            OrphanShelf x = wanting(8);
            int[] cost = new int[8];
            int[] chance = new int[8];
            for (int round = 0; round < 18; round++) {
                for (int s = 0; s < 8; s++) {
                    chance[s] = round % 3 == 0 ? 80 + random.nextInt(20) : 1 + random.nextInt(round % 3 == 1 ? 99 : 9);
                    cost[s] = chance[s] * (1 + random.nextInt(2 * shelves + 1));
                }
                allOrders(x, cost, chance);
            }
        }
    }

    private static void two(OrphanShelf x) {
        Shelves.works(x, 1);
        Shelves.law(x, 0, "s3;s7");
        Shelves.source(x, 3, 5, 6);
    }

    private static void noSuchOnes() {
        for (int what : new int[] {-2, 2, 3, 8, 12, FAR[0], FAR[1]}) {
            P.isNone("what " + what, Promise28CheapestTest::two, x -> x.cheapest(0, 0, what));
        }
        for (int w : new int[] {-1, 1, 79, 80, FAR[0], FAR[1]}) {
            P.isNone("WORK " + w, Promise28CheapestTest::two, x -> x.cheapest(w, 0, NONE));
        }
        for (int land : new int[] {-1, 4, FAR[0], FAR[1]}) {
            P.isNone("LAND " + land, Promise28CheapestTest::two, x -> x.cheapest(0, land, NONE));
        }
        P.due("LAND 3", Checks.made(Promise28CheapestTest::two).cheapest(0, 3, NONE), 0);
    }
}
