/** Promises 30 to 33: likeness, lists that are joined, audits. */
public final class ListsTest {
    private static final Checks CHECKS = new Checks("lists");
    private static final int NONE = OrphanShelf.NONE;

    public static void main(String[] args) {
        likeness();
        wrongLikeness();
        lists();
        joining();
        joiningOneWithItself();
        joiningAll();
        wrongJoining();
        drawing();
        drawingAll();
        fourHundredTimes();
        wrongOnes();
        wrongAsKnownNow();
        wrongAudits();
        CHECKS.end();
    }

    private static void due(String call, long got, long want) {
        CHECKS.due(call, got, want);
    }

    private static void due(String call, boolean got, boolean want) {
        CHECKS.due(call, got, want);
    }

    private static void likeness() {
        OrphanShelf x = new OrphanShelf();
        int a = x.work(0, 0, 10, 20, 0b10101010, NONE);
        int far = x.work(0, 1, 10, 20, 0b01010101, NONE);
        int near = x.work(0, 2, 20, 30, 0b10101001, NONE);
        int behind = x.work(0, 3, 21, 30, 0b10101010, NONE);
        int ahead = x.work(0, 0, 0, 9, 0b10101010, NONE);
        int touching = x.work(0, 0, 0, 10, 0b10101010, NONE);
        int within = x.work(0, 0, 15, 15, 0b10101010, a);
        int other = x.work(1, 0, 10, 20, 0b10101010, NONE);
        due("eight bits", x.like(a, far, 8), 1);
        due("seven bits", x.like(a, far, 7), 0);
        due("two bits", x.like(a, near, 2), 1);
        due("one bit", x.like(a, near, 1), 0);
        due("two bits, the other way", x.like(near, a, 2), 1);
        due("behind", x.like(a, behind, 8), 0);
        due("ahead", x.like(a, ahead, 8), 0);
        due("one day", x.like(a, touching, 0), 1);
        due("within", x.like(a, within, 0), 1);
        due("around", x.like(within, a, 0), 1);
        due("another kind", x.like(a, other, 8), 0);
    }

    private static void wrongLikeness() {
        OrphanShelf x = new OrphanShelf();
        x.work(0, 0, 0, 0, 0, NONE);
        x.work(0, 0, 0, 0, 0, NONE);
        due("like", x.like(0, 1, 0), 1);
        due("one twice", x.like(1, 1, 0), NONE);
        due("a -1", x.like(-1, 0, 0), NONE);
        due("b 2", x.like(0, 2, 0), NONE);
        due("bits -1", x.like(0, 1, -1), NONE);
        due("bits 9", x.like(0, 1, 9), NONE);
    }

    private static void lists() {
        OrphanShelf x = new OrphanShelf();
        x.work(0, 2, 0, 0, 0, NONE);
        due("work 1", x.list(1, 0), false);
        due("work -1", x.list(-1, 0), false);
        due("land -1", x.list(0, -1), false);
        due("land 4", x.list(0, 4), false);
        for (int land = 0; land < 4; land++) {
            due("list " + land, x.list(0, land), true);
            due("it is " + land, x.list(0, land), false);
            due("on it " + land, x.count(10 + land), 1);
        }
    }

    private static void pairs(OrphanShelf x, int a, int b, int bits, int... works) {
        for (int i = 0; i < works.length; i++) {
            due("pair " + i / 2 + " side " + i % 2, x.joined(a, b, bits, i / 2, i % 2), works[i]);
        }
        due("no more pairs", x.joined(a, b, bits, works.length / 2, 0), NONE);
    }

    private static void joining() {
        OrphanShelf x = new OrphanShelf();
        int[] marks = {0, 0, 1, 3, 0, 7, 0};
        for (int m : marks) {
            x.work(0, 0, 0, 0, m, NONE);
        }
        for (int w : new int[] {4, 2, 0}) {
            x.list(w, 0);
        }
        for (int w : new int[] {6, 5, 3, 1}) {
            x.list(w, 3);
        }
        pairs(x, 0, 3, 0, 0, 1, 4, 6);
        pairs(x, 0, 3, 1, 0, 1, 2, 3, 4, 6);
        pairs(x, 0, 3, 2, 0, 1, 2, 3, 4, 6);
        pairs(x, 3, 0, 0, 1, 0, 6, 4);
        pairs(x, 3, 0, 1, 1, 0, 3, 2, 6, 4);
        pairs(x, 3, 0, 8, 1, 0, 3, 2, 5, 4);
        pairs(x, 0, 1, 8);
    }

    private static void joiningOneWithItself() {
        OrphanShelf x = new OrphanShelf();
        for (int w = 0; w < 3; w++) {
            x.work(0, 0, 0, 0, 0, NONE);
            x.list(w, 1);
            x.list(w, 2);
        }
        pairs(x, 1, 2, 0, 0, 1, 1, 0);
        x.work(0, 0, 0, 0, 0, NONE);
        x.list(3, 2);
        pairs(x, 1, 2, 0, 0, 1, 1, 0, 2, 3);
        pairs(x, 2, 1, 0, 0, 1, 1, 0, 3, 2);
    }

    private static void joiningAll() {
        OrphanShelf x = new OrphanShelf();
        for (int w = 0; w < 80; w++) {
            x.work(0, 0, 0, 0, 0, NONE);
            x.list(w, w % 2);
        }
        due("on a list", x.count(11), 40);
        due("the last pair", x.joined(0, 1, 0, 39, 0), 78);
        due("the last pair's other one", x.joined(0, 1, 0, 39, 1), 79);
        due("no more", x.joined(0, 1, 0, 40, 1), NONE);
    }

    private static void wrongJoining() {
        OrphanShelf x = new OrphanShelf();
        x.work(0, 0, 0, 0, 0, NONE);
        x.work(0, 0, 0, 0, 0, NONE);
        x.list(0, 0);
        x.list(1, 1);
        x.list(1, 0);
        due("joined", x.joined(0, 1, 0, 0, 1), 1);
        due("one land", x.joined(0, 0, 0, 0, 0), NONE);
        due("land -1", x.joined(-1, 1, 0, 0, 0), NONE);
        due("land 4", x.joined(0, 4, 0, 0, 0), NONE);
        due("bits -1", x.joined(0, 1, -1, 0, 0), NONE);
        due("bits 9", x.joined(0, 1, 9, 0, 0), NONE);
        due("pair -1", x.joined(0, 1, 0, -1, 0), NONE);
        due("pair MAX", x.joined(0, 1, 0, Integer.MAX_VALUE, 0), NONE);
        due("what -1", x.joined(0, 1, 0, 0, -1), NONE);
        due("what 2", x.joined(0, 1, 0, 0, 2), NONE);
    }

    /** A shelf with some LEAVES, every third of which is FREE. */
    private static OrphanShelf given(int n) {
        OrphanShelf x = new OrphanShelf();
        x.owner(false, 0);
        x.now(10);
        x.work(0, 0, 0, 0, 0, NONE);
        x.work(1, 0, 0, 0, 0, NONE);
        x.share(0, 0, 50);
        Checks.law(x, 0, "p0;u0(k=1)");
        for (int i = 0; i < n; i++) {
            x.ask(0, i % 3 == 2 ? 1 : 0, 0, 0);
        }
        return x;
    }

    private static void drawing() {
        OrphanShelf x = given(9);
        int[] all = {0, 1, 3, 4, 6, 7};
        int seed = 12345;
        for (int n = 1; n <= 4; n++) {
            int times = 0;
            int drawn = 0;
            int bits = 0;
            int next = seed;
            while (drawn < n && times < 400) {
                next = (next * 25173 + 13849) % 65536;
                times++;
                int i = next % 6;
                if ((bits >> i & 1) == 0) {
                    bits |= 1 << i;
                    due("drawn " + drawn, x.audit(n, seed, 10 + drawn), all[i]);
                    drawn++;
                }
            }
            due("how many", x.audit(n, seed, 0), n);
            due("no more", x.audit(n, seed, 10 + n), NONE);
            due("none is wrong", x.audit(n, seed, 1), 0);
            due("at least", x.audit(n, seed, 2), 0);
            due("at most", x.audit(n, seed, 3), 6 - n);
            due("not free", x.audit(n, seed, 4), 6);
        }
        due("seed 0", x.audit(1, 0, 10), all[13849 % 6]);
    }

    private static void drawingAll() {
        OrphanShelf x = given(3);
        due("more than there are", x.audit(100, 1, 0), 2);
        due("at most", x.audit(100, 1, 3), 0);
        x = given(100);
        due("not free", x.audit(100, 77, 4), 67);
        int drawn = x.audit(67, 77, 0);
        due("drawn in 400 times", drawn, x.audit(100, 77, 0));
        due("the last of them", x.audit(100, 77, 9 + drawn) == NONE, false);
        due("and no more", x.audit(100, 77, 10 + drawn), NONE);
    }

    /** How many of a hundred some times of drawing meet. */
    private static int met(int seed, int times) {
        boolean[] seen = new boolean[100];
        int met = 0;
        int next = seed;
        for (int i = 0; i < times; i++) {
            next = (next * 25173 + 13849) % 65536;
            met += seen[next % 100] ? 0 : 1;
            seen[next % 100] = true;
        }
        return met;
    }

    private static void fourHundredTimes() {
        OrphanShelf x = new OrphanShelf();
        x.work(0, 0, 0, 0, 0, NONE);
        Checks.law(x, 0, "p0");
        for (int i = 0; i < 100; i++) {
            x.ask(0, 0, 0, 0);
        }
        int last = 0;
        while (met(last, 399) == met(last, 400)) {
            last++;
        }
        due("drawn the 400th time", x.audit(100, last, 0), met(last, 400));
        int tooLate = 0;
        while (met(tooLate, 400) == met(tooLate, 401)) {
            tooLate++;
        }
        due("not drawn the 401st time", x.audit(100, tooLate, 0), met(tooLate, 400));
        due("at most", x.audit(100, tooLate, 3), 100 - met(tooLate, 400));
    }

    private static void wrongOnes() {
        OrphanShelf x = new OrphanShelf();
        x.owner(false, 0);
        x.owner(false, 0);
        x.now(10);
        x.work(0, 0, 0, 0, 0, NONE);
        x.work(0, 0, 0, 0, 0, NONE);
        x.share(0, 0, 50);
        x.share(1, 1, 50);
        Checks.law(x, 0, "p0");
        x.ask(0, 0, 0, 0);
        x.ask(0, 1, 0, 0);
        x.now(20);
        x.ask(0, 0, 0, 0);
        due("nobody was found", x.audit(3, 5, 1), 0);
        x.look(0, 0, 15, 0);
        due("one was found by then", x.audit(3, 5, 1), 1);
        due("at least", x.audit(3, 5, 2), 1);
        due("at most", x.audit(3, 5, 3), 1);
        x.look(0, 0, 10, 0);
        due("two", x.audit(3, 5, 1), 2);
        x.agree(0, 0);
        due("agreed by the later one's day", x.audit(3, 5, 1), 1);
        x.now(21);
        x.look(1, 0, 10, 1);
        x.agree(1, 1);
        due("agreed too late", x.audit(3, 5, 1), 2);
        int first = x.audit(1, 5, 10);
        due("of one drawn", x.audit(1, 5, 1), first == 2 ? 0 : 1);
        due("at most of one drawn", x.audit(1, 5, 3), 2 + (first == 2 ? 0 : 1));
    }

    private static void wrongAsKnownNow() {
        OrphanShelf x = new OrphanShelf();
        x.owner(true, 0);
        x.owner(true, 0);
        x.now(10);
        x.work(0, 0, 0, 0, 0, NONE);
        x.share(0, 0, 50);
        Checks.law(x, 0, "p0");
        x.comes(1);
        x.ask(0, 0, 0, 0);
        due("who holds it was not found", x.audit(1, 0, 1), 0);
        x.now(30);
        x.merge(0, 1, 10);
        due("who held it, as known now, was", x.audit(1, 0, 1), 1);
        x.agree(1, 0);
        due("agreed too late", x.audit(1, 0, 1), 1);
    }

    private static void wrongAudits() {
        OrphanShelf x = new OrphanShelf();
        due("no leaves", x.audit(1, 0, 0), NONE);
        x.work(0, 0, 0, 0, 0, NONE);
        Checks.law(x, 0, "u0(d=1);p0");
        x.now(1);
        x.ask(0, 0, 0, 0);
        due("only free ones", x.audit(1, 0, 0), NONE);
        due("only free ones, 4", x.audit(1, 0, 4), NONE);
        x.now(2);
        x.ask(0, 0, 0, 0);
        due("one", x.audit(1, 0, 10), 1);
        due("n 0", x.audit(0, 0, 0), NONE);
        due("n 101", x.audit(101, 0, 0), NONE);
        due("n 100", x.audit(100, 0, 0), 1);
        due("seed -1", x.audit(1, -1, 0), NONE);
        due("seed 65536", x.audit(1, 65536, 0), NONE);
        due("seed 65535", x.audit(1, 65535, 0), 1);
        due("what -1", x.audit(1, 0, -1), NONE);
        for (int what = 5; what < 10; what++) {
            due("what " + what, x.audit(1, 0, what), NONE);
        }
        due("what 11", x.audit(1, 0, 11), NONE);
        due("what MAX", x.audit(1, 0, Integer.MAX_VALUE), NONE);
        due("what MIN", x.audit(1, 0, Integer.MIN_VALUE), NONE);
    }
}
