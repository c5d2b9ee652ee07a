import java.util.Arrays;
import java.util.Random;

/** Promises 16 to 22, 28 and 29: searches that are enough, why not, who answers, the cheapest search. */
public final class SearchesTest {
    private static final Checks CHECKS = new Checks("searches");
    private static final int NONE = OrphanShelf.NONE;

    public static void main(String[] args) {
        nothingIsWanted();
        sourcesAndAges();
        asKnown();
        lettersThatWait();
        whoIsFoundNeedsNoLetter();
        worksInWorks();
        everyWorkByItsOwnConditions();
        wrongCases();
        nobodyAnswers();
        nobodyAnswersByHolders();
        cheapestOfTwo();
        cheapestLeavesOut();
        cheapestOfLikeOnes();
        cheapestWithRounding();
        cheapestOfTheLowestEight();
        cheapestWithoutChances();
        judging();
        CHECKS.end();
    }

    private static void due(String call, long got, long want) {
        CHECKS.due(call, got, want);
    }

    private static void due(String call, boolean got, boolean want) {
        CHECKS.due(call, got, want);
    }

    private static void why(OrphanShelf x, String at, int w, int day, int known, int... lack) {
        due(at + ": enough", x.enough(w, 0, day, known), lack.length == 0 ? 1 : 0);
        for (int what = 0; what < 3; what++) {
            due(at + ": why " + what, x.why(w, 0, day, known, what), lack.length == 0 ? NONE : lack[what]);
        }
    }

    private static void nothingIsWanted() {
        OrphanShelf x = new OrphanShelf();
        x.work(0, 0, 0, 0, 0, NONE);
        why(x, "no law", 0, 0, 0);
        Checks.law(x, 0, "a5;s3(k=1)");
        why(x, "nothing holds", 0, 0, 0);
    }

    private static void sourcesAndAges() {
        OrphanShelf x = new OrphanShelf();
        x.work(0, 0, 0, 0, 0, NONE);
        x.work(0, 0, 0, 0, 0, NONE);
        Checks.law(x, 0, 0, 199, "s11;s4;a10");
        Checks.law(x, 0, 200, 300, "s4");
        x.now(1000);
        why(x, "the lowest first", 0, 100, 1000, 0, 0, 4);
        x.look(1, 4, 95, NONE);
        why(x, "another work's look", 0, 100, 1000, 0, 0, 4);
        x.look(0, 4, 101, NONE);
        why(x, "a look behind the day", 0, 100, 1000, 0, 0, 4);
        x.look(0, 4, 89, NONE);
        why(x, "too old", 0, 100, 1000, 0, 0, 4);
        x.look(0, 4, 90, NONE);
        why(x, "not too old", 0, 100, 1000, 0, 0, 11);
        x.look(0, 11, 100, NONE);
        why(x, "all looked through", 0, 100, 1000);
        why(x, "the earliest day for it", 0, 99, 1000, 0, 0, 11);
        why(x, "the other look is newer", 0, 110, 1000);
        why(x, "that is too old then", 0, 111, 1000, 0, 0, 11);
        why(x, "without a, no age", 0, 300, 1000);
        why(x, "no law any more", 0, 301, 1000);
    }

    private static void asKnown() {
        OrphanShelf x = new OrphanShelf();
        x.work(0, 0, 0, 0, 0, NONE);
        Checks.law(x, 0, "s0");
        x.now(50);
        x.look(0, 0, 10, NONE);
        why(x, "known", 0, 10, 50);
        why(x, "not known yet", 0, 10, 49, 0, 0, 0);
        why(x, "not looked yet", 0, 9, 50, 0, 0, 0);
        x.owner(false, 0);
        x.share(0, 0, 5);
        Checks.law(x, 0, "s1(f=1)");
        x.now(60);
        x.look(0, 3, 10, 0);
        why(x, "a condition, as known", 0, 10, 60, 0, 0, 1);
        why(x, "as known then", 0, 10, 59);
    }

    private static void lettersThatWait() {
        OrphanShelf x = new OrphanShelf();
        x.owner(true, 0);
        x.owner(false, 0);
        x.owner(true, 0);
        x.work(0, 0, 0, 0, 0, NONE);
        x.share(0, 1, 10);
        x.share(0, 0, 10);
        Checks.law(x, 0, "l10");
        x.now(100);
        why(x, "the first share first", 0, 100, 100, 0, 1, 1);
        x.letter(1, 91);
        why(x, "not long enough", 0, 100, 100, 0, 1, 1);
        x.letter(1, 90);
        why(x, "long enough", 0, 100, 100, 0, 1, 0);
        why(x, "a day ahead", 0, 99, 100, 0, 1, 1);
        x.letter(0, 0);
        why(x, "both wait", 0, 100, 100);
        why(x, "not known yet", 0, 100, 99, 0, 1, 1);
        x.merge(0, 2, 0);
        why(x, "who is told counts, not who holds", 0, 100, 100);
        Checks.law(x, 0, "l0");
        why(x, "no letters are wanted", 0, 5, 5);
    }

    private static void whoIsFoundNeedsNoLetter() {
        OrphanShelf x = new OrphanShelf();
        x.owner(true, 0);
        x.owner(true, 0);
        x.work(0, 0, 0, 0, 0, NONE);
        x.share(0, 0, 10);
        Checks.law(x, 0, "l10");
        x.now(100);
        x.letter(0, 95);
        x.now(102);
        x.answer(0);
        why(x, "answered: found", 0, 102, 102);
        why(x, "ahead of the answer", 0, 101, 102, 0, 1, 0);
        why(x, "the answer is not known yet", 0, 102, 101, 0, 1, 0);
        x.work(0, 0, 0, 0, 0, NONE);
        x.share(1, 1, 10);
        x.look(1, 7, 50, 1);
        why(x, "found by a look", 1, 50, 102);
        why(x, "ahead of that look", 1, 49, 102, 1, 1, 1);
    }

    private static void worksInWorks() {
        OrphanShelf x = new OrphanShelf();
        x.owner(false, 0);
        x.now(20);
        for (int w = 0; w < 8; w++) {
            x.work(0, 0, 0, 0, 0, w - 1);
        }
        x.share(0, 0, 1);
        Checks.law(x, 0, "s2;s1;l5");
        for (int w = 7; w >= 0; w--) {
            why(x, "of the work first", 7, 20, 20, w, 0, 1);
            x.look(w, 1, 20, NONE);
            why(x, "then its next source", 7, 20, 20, w, 0, 2);
            x.look(w, 2, 20, NONE);
        }
        why(x, "the outermost's owner", 7, 20, 20, 0, 1, 0);
        x.letter(0, 15);
        why(x, "all of them", 7, 20, 20);
    }

    private static void everyWorkByItsOwnConditions() {
        OrphanShelf x = new OrphanShelf();
        x.work(1, 0, 0, 0, 0, NONE);
        x.work(2, 0, 0, 0, 0, 0);
        Checks.law(x, 0, "s5(j=1);s6(k=1)");
        why(x, "the inner one's", 1, 0, 0, 1, 0, 5);
        x.look(1, 5, 0, NONE);
        why(x, "the outer one's", 1, 0, 0, 0, 0, 6);
        x.look(1, 6, 0, NONE);
        why(x, "for the outer one", 1, 0, 0, 0, 0, 6);
        x.look(0, 6, 0, NONE);
        why(x, "both", 1, 0, 0);
    }

    private static void wrongCases() {
        OrphanShelf x = new OrphanShelf();
        x.work(0, 0, 0, 0, 0, NONE);
        Checks.law(x, 0, "s0");
        due("enough: work 1", x.enough(1, 0, 0, 0), NONE);
        due("enough: work -1", x.enough(-1, 0, 0, 0), NONE);
        due("enough: land 4", x.enough(0, 4, 0, 0), NONE);
        due("enough: day -1", x.enough(0, 0, -1, 0), NONE);
        due("enough: day 100000", x.enough(0, 0, 100000, 0), NONE);
        due("enough: known 100000", x.enough(0, 0, 0, 100000), NONE);
        due("enough: days behind now", x.enough(0, 0, 99999, 99999), 0);
        due("why: work 1", x.why(1, 0, 0, 0, 0), NONE);
        due("why: land -1", x.why(0, -1, 0, 0, 0), NONE);
        due("why: day -1", x.why(0, 0, -1, 0, 0), NONE);
        due("why: known -1", x.why(0, 0, 0, -1, 0), NONE);
        due("why: what -1", x.why(0, 0, 0, 0, -1), NONE);
        due("why: what 3", x.why(0, 0, 0, 0, 3), NONE);
        due("nobody: work 1", x.nobody(1, 0, 0), NONE);
        due("nobody: day -1", x.nobody(0, -1, 0), NONE);
        due("nobody: known 100000", x.nobody(0, 0, 100000), NONE);
        due("cheapest: work 1", x.cheapest(1, 0, NONE), NONE);
        due("cheapest: land 4", x.cheapest(0, 4, NONE), NONE);
        due("cheapest: what -2", x.cheapest(0, 0, -2), NONE);
        due("cheapest: what MAX", x.cheapest(0, 0, Integer.MAX_VALUE), NONE);
    }

    private static void nobodyAnswers() {
        OrphanShelf x = new OrphanShelf();
        x.owner(false, 0);
        x.owner(false, 0);
        x.work(0, 0, 0, 0, 0, NONE);
        due("no shares", x.nobody(0, 0, 0), 1);
        x.share(0, 0, 10);
        x.share(0, 1, 10);
        due("none is found", x.nobody(0, 0, 0), 1);
        x.now(9);
        x.look(0, 0, 5, 1);
        due("one is", x.nobody(0, 5, 9), 0);
        due("not by then", x.nobody(0, 4, 9), 1);
        due("not known yet", x.nobody(0, 5, 8), 1);
    }

    private static void nobodyAnswersByHolders() {
        OrphanShelf x = new OrphanShelf();
        x.owner(true, 0);
        x.owner(true, 0);
        x.work(0, 0, 0, 0, 0, NONE);
        x.share(0, 0, 10);
        x.now(9);
        x.look(0, 0, 5, 0);
        x.merge(0, 1, 7);
        due("who holds it is found", x.nobody(0, 6, 9), 0);
        due("who holds it then is not", x.nobody(0, 7, 9), 1);
        x.comes(1);
        due("now that one is", x.nobody(0, 9, 9), 0);
    }

    private static void source(OrphanShelf x, int s, int cost, int chance) {
        x.source(s, cost);
        x.chance(s, 0, chance);
    }

    private static void cheapest(OrphanShelf x, String at, long expected, int... order) {
        due(at + ": expected", x.cheapest(0, 0, NONE), expected);
        for (int i = 0; i < order.length; i++) {
            due(at + ": " + i, x.cheapest(0, 0, i), order[i]);
        }
        due(at + ": no more", x.cheapest(0, 0, order.length), NONE);
    }

    private static void cheapestOfTwo() {
        OrphanShelf x = new OrphanShelf();
        x.work(0, 0, 0, 0, 0, NONE);
        cheapest(x, "nothing to do", 0);
        Checks.law(x, 0, "s3;s7");
        cheapest(x, "for nothing", 0, 3, 7);
        source(x, 3, 100, 10);
        source(x, 7, 100, 50);
        cheapest(x, "the better one first", 150000000L, 7, 3);
        source(x, 3, 20, 10);
        cheapest(x, "like ones: the least row", 20 * 1000000L + 100 * 900000L, 3, 7);
        source(x, 3, 19, 10);
        cheapest(x, "the cheaper one first", 19 * 1000000L + 100 * 900000L, 3, 7);
        x.chance(7, 0, 100);
        cheapest(x, "nothing behind what is sure", 100 * 1000000L, 7, 3);
        x.chance(7, 0, 0);
        x.chance(7, 1, 100);
        cheapest(x, "of its own kind", 19 * 1000000L + 100 * 900000L, 3, 7);
    }

    private static void cheapestLeavesOut() {
        OrphanShelf x = new OrphanShelf();
        x.work(0, 0, 0, 0, 0, NONE);
        x.work(1, 0, 0, 0, 0, 0);
        Checks.law(x, 0, 0, 99999, "s0;s1;a10");
        source(x, 0, 5, 10);
        source(x, 1, 7, 10);
        x.chance(0, 1, 10);
        x.chance(1, 1, 20);
        x.now(20);
        x.look(0, 0, 9, NONE);
        cheapest(x, "a look that is too old", 5 * 1000000 + 7 * 900000, 0, 1);
        x.look(0, 0, 10, NONE);
        cheapest(x, "one is looked through", 7000000, 1);
        x.now(21);
        cheapest(x, "no more", 5 * 1000000 + 7 * 900000, 0, 1);
        x.look(0, 0, 21, NONE);
        x.look(0, 1, 21, NONE);
        cheapest(x, "all", 0);
        due("not for what it lies in", x.cheapest(1, 0, NONE), 7 * 1000000 + 5 * 800000);
        x.look(1, 0, 21, NONE);
        x.look(1, 1, 21, NONE);
        due("all of it", x.cheapest(1, 0, NONE), 0);
        due("another land", x.cheapest(1, 1, NONE), 0);
    }

    private static void cheapestOfLikeOnes() {
        OrphanShelf x = new OrphanShelf();
        x.work(0, 0, 0, 0, 0, NONE);
        Checks.law(x, 0, "s11;s10;s9;s8;s7;s6;s5;s4");
        for (int s = 4; s < 12; s++) {
            source(x, s, 10, 50);
        }
        long expected = 0;
        long r = 1000000;
        for (int i = 0; i < 8; i++) {
            expected += 10 * r;
            r /= 2;
        }
        cheapest(x, "all alike", expected, 4, 5, 6, 7, 8, 9, 10, 11);
        x.chance(11, 0, 51);
        due("the one that is better", x.cheapest(0, 0, 0), 11);
        due("and the least row behind it", x.cheapest(0, 0, 1), 4);
    }

    /** The least EXPECTED of all orders of SOURCES from depth on, the least row first; best has its row. */
    private static long brute(int[] cost, int[] chance, int[] row, int depth, long[] best, int[] bestRow) {
        if (depth == row.length) {
            long sum = 0;
            long r = 1000000;
            for (int s : row) {
                sum += cost[s] * r;
                r = r * (100 - chance[s]) / 100;
            }
            if (sum < best[0]) {
                best[0] = sum;
                System.arraycopy(row, 0, bestRow, 0, row.length);
            }
            return best[0];
        }
        for (int s = 0; s < row.length; s++) {
            boolean used = false;
            for (int i = 0; i < depth; i++) {
                used = used || row[i] == s;
            }
            if (!used) {
                row[depth] = s;
                brute(cost, chance, row, depth + 1, best, bestRow);
            }
        }
        return best[0];
    }

    private static void allOrders(int[] cost, int[] chance) {
        OrphanShelf x = new OrphanShelf();
        x.work(0, 0, 0, 0, 0, NONE);
        StringBuilder text = new StringBuilder("s0");
        for (int s = 0; s < cost.length; s++) {
            text.append(";s").append(s);
            source(x, s, cost[s], chance[s]);
        }
        Checks.law(x, 0, text.toString());
        int[] order = new int[cost.length];
        long[] best = {Long.MAX_VALUE};
        long expected = brute(cost, chance, new int[cost.length], 0, best, order);
        cheapest(x, "all orders of " + Arrays.toString(cost) + Arrays.toString(chance), expected, order);
    }

    /** Where COSTS go with chances, all orders are alike but for what is rounded down. */
    private static void cheapestWithRounding() {
        allOrders(new int[] {10, 30, 70, 90, 130, 110}, new int[] {1, 3, 7, 9, 13, 11});
        allOrders(new int[] {110, 130, 90, 70, 30, 10, 170, 190}, new int[] {11, 13, 9, 7, 3, 1, 17, 19});
        allOrders(new int[] {9999, 10000, 9998, 10000}, new int[] {99, 99, 99, 98});
        // The best of these are lost if an order is given up that rounding could still make the cheapest.
        allOrders(new int[] {2099, 3900, 1499, 2501, 8200, 3200}, new int[] {21, 39, 15, 25, 82, 32});
        allOrders(new int[] {1100, 700, 2500, 1150, 500}, new int[] {22, 14, 50, 23, 10});
        allOrders(new int[] {4416, 1536, 2368, 5120, 896, 960}, new int[] {69, 24, 37, 80, 14, 15});
        Random random = new Random(815);
        for (int i = 0; i < 120; i++) {
            int n = 1 + random.nextInt(8);
            int[] cost = new int[n];
            int[] chance = new int[n];
            int mode = random.nextInt(5);
            for (int s = 0; s < n; s++) {
                chance[s] = mode == 0 ? 100 * random.nextInt(2) : random.nextInt(mode == 1 ? 3 : 101);
                cost[s] = mode == 2 ? chance[s] * 7 : mode == 3 ? random.nextInt(3) : random.nextInt(10001);
            }
            allOrders(cost, chance);
        }
    }

    private static void cheapestOfTheLowestEight() {
        OrphanShelf x = new OrphanShelf();
        x.work(0, 0, 0, 0, 0, NONE);
        Checks.law(x, 0, "s0;s1;s2;s3;s4;s5;s6;s7;s8;s9;s10;s11");
        for (int s = 0; s < 12; s++) {
            source(x, s, 10000, 0);
        }
        x.chance(8, 0, 100);
        cheapest(x, "eight of twelve", 80000000000L, 0, 1, 2, 3, 4, 5, 6, 7);
        x.look(0, 0, 0, NONE);
        x.look(0, 3, 0, NONE);
        cheapest(x, "others come up", 10000000000L, 8, 1, 2, 4, 5, 6, 7, 9);
    }

    private static void cheapestWithoutChances() {
        OrphanShelf x = new OrphanShelf();
        x.work(0, 0, 0, 0, 0, NONE);
        Checks.law(x, 0, "s0;s1;s2;s3");
        for (int s = 0; s < 4; s++) {
            source(x, s, 40 - s, 0);
        }
        cheapest(x, "all orders are alike", (40 + 39 + 38 + 37) * 1000000L, 0, 1, 2, 3);
        x.source(2, 0);
        cheapest(x, "one for nothing", (40 + 39 + 37) * 1000000L, 0, 1, 2, 3);
        x.chance(2, 0, 1);
        cheapest(x, "one for nothing that may find", (40 + 39 + 37) * 990000L, 2, 0, 1, 3);
    }

    private static void judging() {
        OrphanShelf x = new OrphanShelf();
        x.work(0, 0, 0, 0, 0, NONE);
        due("nothing to do", x.judge(0, 0, 0), 0);
        Checks.law(x, 0, "s2;s5;s9");
        source(x, 2, 3, 33);
        source(x, 5, 7, 33);
        source(x, 9, 11, 33);
        due("nothing told", x.judge(0, 0, 0), -2);
        due("the tape has not so many", x.judge(0, 0, 1), NONE);
        Checks.feedBytes(x, 9, 2, 5, 0);
        due("n -1", x.judge(0, 0, -1), NONE);
        due("n 21", x.judge(0, 0, 21), NONE);
        due("work 1", x.judge(1, 0, 3), NONE);
        due("work -1", x.judge(-1, 0, 3), NONE);
        due("land 4", x.judge(0, 4, 3), NONE);
        due("the tape stays", x.count(8), 20);
        due("just those", x.judge(0, 0, 3), 11 * 1000000 + 3 * 670000 + 7 * 448900);
        due("empty", x.count(8), 0);
        int[][] wrong = {{9, 2}, {9, 2, 5, 5}, {9, 2, 2}, {9, 2, 4}, {9, 2, 12}, {9, 2, 255}, {9, 9, 9},
            {2, 5, 9, 2, 5, 9, 2, 5, 9, 2, 5, 9}};
        for (int[] order : wrong) {
            Checks.feedBytes(x, order);
            due("not just those", x.judge(0, 0, order.length), -2);
            due("empty", x.count(8), 0);
        }
        Checks.feedBytes(x, 9, 2, 5);
        due("none of the tape", x.judge(0, 0, 0), -2);
        due("empty then too", x.count(8), 0);
        x.look(0, 5, 0, NONE);
        Checks.feedBytes(x, 9, 2);
        due("one is looked through", x.judge(0, 0, 2), 11 * 1000000 + 3 * 670000);
    }
}
