import java.util.Arrays;

/** Promise 33: audit. N of the LEAVES that are not FREE are drawn by a seed; WRONG ones, and BOUNDS. */
public final class Promise33AuditTest {
    private static final Checks P = new Checks("promise 33, audit");
    private static final int NONE = OrphanShelf.NONE;
    private static final int[] FAR = {Integer.MIN_VALUE, Integer.MAX_VALUE};

    public static void main(String[] args) {
        drawnBySeeds();
        thoseThatAreNotFree();
        moreThanThereAre();
        everyOneThatWasDrawn();
        fourHundredTimes();
        wrongOnes();
        foundByThatDay();
        agreedByThatDay();
        whoHeldItThen();
        bounds();
        noLeaves();
        noSuchNumber();
        noSuchSeed();
        noneSuch();
        P.end();
    }

    /** LEAVES of WORK 0, on DAY 10; every third is of WORK 1, which is FREE. PERSON 0 has a SHARE of WORK 0. */
    private static void give(OrphanShelf x, int n) {
        Shelves.persons(x, 1);
        x.now(10);
        x.work(0, 0, 0, 0, 0, NONE);
        x.work(1, 0, 0, 0, 0, NONE);
        x.share(0, 0, 50);
        Shelves.law(x, 0, "p0;u0(k=1)");
        for (int i = 0; i < n; i++) {
            x.ask(0, i % 3 == 2 ? 1 : 0, 0, 0);
        }
    }

    private static OrphanShelf given(int n) {
        return Checks.made(x -> give(x, n));
    }

    /** What is drawn of m LEAVES, by their places: as the document tells it. */
    private static int[] drawn(int n, int seed, int m, int times) {
        int[] row = new int[m];
        int size = 0;
        long next = seed;
        for (int i = 0; i < times && size < n; i++) {
            next = (next * 25173 + 13849) % 65536;
            boolean isNew = true;
            for (int j = 0; j < size; j++) {
                isNew = isNew && row[j] != next % m;
            }
            if (isNew) {
                row[size] = (int) (next % m);
                size++;
            }
        }
        return Arrays.copyOf(row, size);
    }

    private static void drawnBySeeds() {
        int[] all = {0, 1, 3, 4, 6, 7};
        for (int seed : new int[] {0, 1, 2, 12345, 32767, 32768, 65534, 65535}) {
            for (int n = 1; n <= 5; n++) {
                OrphanShelf x = given(9);
                int[] row = drawn(n, seed, 6, 400);
                P.due("how many", x.audit(n, seed, 0), n);
                for (int i = 0; i < n; i++) {
                    P.due("seed " + seed + ", the one at " + i, x.audit(n, seed, 10 + i), all[row[i]]);
                }
                P.due("no more", x.audit(n, seed, 10 + n), NONE);
            }
        }
        P.due("one of a hundred by seed 0", hundred().audit(1, 0, 10), 13849 % 100);
        P.due("by seed 65535", hundred().audit(1, 65535, 10), (65535 * 25173 + 13849) % 65536 % 100);
    }

    private static void thoseThatAreNotFree() {
        OrphanShelf x = given(9);
        P.due("not FREE", x.audit(1, 0, 4), 6);
        P.due("LEAVES", x.count(6), 9);
        for (int i = 0; i < 6; i++) {
            P.due("a FREE one is not drawn", x.leave(x.audit(6, 7, 10 + i), 7), 0);
        }
        P.due("of one", given(1).audit(1, 5, 10), 0);
        P.due("of one alone", given(1).audit(100, 5, 0), 1);
    }

    private static void moreThanThereAre() {
        OrphanShelf x = given(3);
        P.due("both", x.audit(100, 1, 0), 2);
        P.due("at most", x.audit(100, 1, 3), 0);
        P.due("no third", x.audit(100, 1, 12), NONE);
        P.due("just so many", x.audit(2, 1, 0), 2);
        P.due("one less", x.audit(1, 1, 0), 1);
    }

    private static OrphanShelf hundred() {
        OrphanShelf x = new OrphanShelf();
        Shelves.works(x, 1);
        Shelves.law(x, 0, "p0");
        for (int i = 0; i < 100; i++) {
            x.ask(0, 0, 0, 0);
        }
        return x;
    }

    private static void everyOneThatWasDrawn() {
        for (int n : new int[] {9, 10, 11, 20, 60}) {
            OrphanShelf x = hundred();
            int[] row = drawn(n, 77, 100, 400);
            P.due(n + ": how many", x.audit(n, 77, 0), row.length);
            for (int i = 0; i < row.length; i++) {
                P.due(n + ": the one at " + i, x.audit(n, 77, 10 + i), row[i]);
            }
            P.due(n + ": no more", x.audit(n, 77, 10 + row.length), NONE);
        }
    }

    private static void fourHundredTimes() {
        OrphanShelf x = hundred();
        int last = 0;
        while (drawn(100, last, 100, 399).length == drawn(100, last, 100, 400).length) {
            last++;
        }
        int[] row = drawn(100, last, 100, 400);
        P.due("drawn the 400th time", x.audit(100, last, 0), row.length);
        P.due("that one", x.audit(100, last, 9 + row.length), row[row.length - 1]);
        int late = 0;
        while (drawn(100, late, 100, 400).length == drawn(100, late, 100, 401).length) {
            late++;
        }
        int[] without = drawn(100, late, 100, 400);
        P.due("not drawn the 401st time", x.audit(100, late, 0), without.length);
        P.due("none such", x.audit(100, late, 10 + without.length), NONE);
        P.due("at most", x.audit(100, late, 3), 100 - without.length);
    }

    /** LEAVES 0 of WORK 0, 1 of WORK 1 on DAY 10, and 2 of WORK 0 on DAY 20, which is NOW. */
    private static OrphanShelf three() {
        OrphanShelf x = new OrphanShelf();
        Shelves.persons(x, 2);
        x.now(10);
        Shelves.works(x, 2);
        x.share(0, 0, 50);
        x.share(1, 1, 50);
        Shelves.law(x, 0, "p0");
        x.ask(0, 0, 0, 0);
        x.ask(0, 1, 0, 0);
        x.now(20);
        x.ask(0, 0, 0, 0);
        return x;
    }

    private static void wrongOnes() {
        OrphanShelf x = three();
        P.due("nobody was found", x.audit(3, 5, 1), 0);
        x.look(0, 0, 10, 0);
        P.due("both of WORK 0", x.audit(3, 5, 1), 2);
        int first = x.audit(1, 5, 10);
        P.due("of one drawn", x.audit(1, 5, 1), first == 1 ? 0 : 1);
        x.look(1, 0, 10, 1);
        P.due("all three", x.audit(3, 5, 1), 3);
        P.due("one of one drawn", x.audit(1, 5, 1), 1);
    }

    private static void foundByThatDay() {
        OrphanShelf x = three();
        x.look(0, 0, 11, 0);
        P.due("the DAY behind the one, ahead of the other", x.audit(3, 5, 1), 1);
        x.look(0, 0, 10, 0);
        P.due("on the DAY itself", x.audit(3, 5, 1), 2);
        OrphanShelf y = three();
        y.now(21);
        y.look(0, 0, 21, 0);
        P.due("behind both", y.audit(3, 5, 1), 0);
        y.look(0, 0, 20, 0);
        P.due("on the later one's DAY, told later", y.audit(3, 5, 1), 1);
    }

    private static void agreedByThatDay() {
        OrphanShelf x = three();
        x.look(0, 0, 10, 0);
        x.agree(0, 0);
        P.due("on the later one's DAY", x.audit(3, 5, 1), 1);
        OrphanShelf y = three();
        y.look(0, 0, 10, 0);
        y.now(21);
        y.agree(0, 0);
        P.due("the DAY behind it", y.audit(3, 5, 1), 2);
        OrphanShelf z = three();
        z.look(0, 0, 10, 0);
        z.agree(0, 1);
        z.agree(1, 0);
        P.due("for another WORK, or another one", z.audit(3, 5, 1), 2);
    }

    /** A LEAVE of DAY 10 for a WORK of FIRM 0, told on DAY 30 to be part of FIRM 1, who came, from a DAY on. */
    private static OrphanShelf partFrom(int day) {
        OrphanShelf x = new OrphanShelf();
        Shelves.firms(x, 2);
        x.now(10);
        Shelves.works(x, 1);
        x.share(0, 0, 50);
        Shelves.law(x, 0, "p0");
        x.comes(1);
        x.ask(0, 0, 0, 0);
        P.due("who held it was not found", x.audit(1, 0, 1), 0);
        x.now(30);
        x.merge(0, 1, day);
        return x;
    }

    private static void whoHeldItThen() {
        P.due("who holds it since the DAY behind", partFrom(11).audit(1, 0, 1), 0);
        OrphanShelf x = partFrom(10);
        P.due("who held it that DAY, as KNOWN now", x.audit(1, 0, 1), 1);
        x.agree(1, 0);
        P.due("agreed too late", x.audit(1, 0, 1), 1);
    }

    private static void bounds() {
        OrphanShelf x = given(9);
        for (int n = 1; n <= 6; n++) {
            P.due("at least, none is wrong", x.audit(n, 7, 2), 0);
            P.due("at most, all that are not drawn", x.audit(n, 7, 3), 6 - n);
        }
        x.look(0, 0, 10, 0);
        for (int n = 1; n <= 6; n++) {
            P.due("WRONG, all", x.audit(n, 7, 1), n);
            P.due("at least all that are drawn", x.audit(n, 7, 2), n);
            P.due("at most all", x.audit(n, 7, 3), 6);
            P.due("not FREE", x.audit(n, 7, 4), 6);
        }
        OrphanShelf y = three();
        y.look(0, 0, 15, 0);
        P.due("one of three: at least", y.audit(3, 5, 2), 1);
        P.due("one of three: at most", y.audit(3, 5, 3), 1);
    }

    private static void noLeaves() {
        for (int what : new int[] {0, 1, 2, 3, 4, 10}) {
            P.isNone("no LEAVES, what " + what, x -> give(x, 0), x -> x.audit(1, 0, what));
        }
        OrphanShelf x = new OrphanShelf();
        x.work(1, 0, 0, 0, 0, NONE);
        x.now(10);
        Shelves.law(x, 0, "u0");
        x.ask(0, 0, 0, 0);
        P.due("a FREE one alone: none is drawn", x.audit(1, 0, 10), NONE);
    }

    private static void noSuchNumber() {
        for (int n : new int[] {0, -1, 101, FAR[0], FAR[1]}) {
            P.isNone("n " + n, x -> give(x, 4), x -> x.audit(n, 0, 0));
        }
        P.due("n 1", given(4).audit(1, 0, 0), 1);
        P.due("n 100", given(4).audit(100, 0, 0), 3);
    }

    private static void noSuchSeed() {
        for (int seed : new int[] {-1, 65536, FAR[0], FAR[1]}) {
            P.isNone("seed " + seed, x -> give(x, 4), x -> x.audit(1, seed, 0));
        }
        P.due("seed 0", given(4).audit(1, 0, 0), 1);
        P.due("seed 65535", given(4).audit(1, 65535, 0), 1);
    }

    private static void noneSuch() {
        for (int what : new int[] {-1, 5, 6, 7, 8, 9, 11, 109, 110, FAR[0], FAR[1]}) {
            P.isNone("what " + what, x -> give(x, 4), x -> x.audit(1, 0, what));
        }
        P.due("what 10", given(4).audit(1, 0, 10) == NONE, false);
    }
}
