import java.util.Random;

/** Runs of calls drawn by fixed seeds, on the class and on the Model: every answer must be the same. */
public final class RandomRunsTest {
    private static final Checks CHECKS = new Checks("random runs");
    private static final int RUNS = 5000;
    // An object is used for 512 calls, and a step makes eleven at most.
    private static final int CALLS = 501;
    private static final int[] ODD = {-1, -2, 4, 8, 12, 40, 80, 100, 101, 256, 10001, 99999, 100000, 100001,
        65535, 65536, Integer.MIN_VALUE, Integer.MAX_VALUE};

    private final Random random;
    private final OrphanShelf x = new OrphanShelf();
    private final Model m = new Model();
    private final TextMaker texts;
    private final int scale;
    private final boolean wild;
    private final boolean giving;
    private final boolean alike;
    private int day;
    private int calls;

    private RandomRunsTest(int seed) {
        random = new Random(seed);
        giving = seed % 4 == 1;
        alike = seed % 4 == 2;
        texts = new TextMaker(random, giving ? "pppppppppwwfeselx" : "ssssalltuufppppwex");
        scale = seed % 3 == 0 ? 40 : seed % 3 == 1 ? 3000 : 99999;
        wild = seed % 10 == 9;
        if (giving) {
            prepare();
        }
    }

    /** Works for which leave is given at once, so that uses, comings and payments have something to meet. */
    private void prepare() {
        for (int i = 0; i < 6; i++) {
            due("owner", x.owner(i > 2, 0), m.owner(i > 2, 0));
            due("work", x.work(0, 0, 5, 9, i, -1), m.work(0, 0, 5, 9, i, -1));
        }
        for (int i = 0; i < 12; i++) {
            int w = below(6);
            int o = below(6);
            due("share", x.share(w, o, 20 + i), m.share(w, o, 20 + i));
        }
        String text = below(2) == 0 ? "p0;p1;p2;p3;w50" : "p0;p1;w70;e20;f9";
        feed("prepared: ", text);
        due("law", x.law(0, 0, 99999, text.length()), m.law(0, 0, 99999, text.length()));
    }

    public static void main(String[] args) {
        for (int seed = 0; seed < RUNS && CHECKS.wrong() < 20; seed++) {
            RandomRunsTest run = new RandomRunsTest(seed);
            for (int step = 0; run.calls < CALLS && CHECKS.wrong() < 20; step++) {
                run.step("seed " + seed + " step " + step + " ");
            }
        }
        CHECKS.end();
    }

    private void due(String call, long got, long want) {
        calls++;
        CHECKS.due(call, got, want);
    }

    private void due(String call, boolean got, boolean want) {
        due(call, got ? 1 : 0, want ? 1 : 0);
    }

    private int below(int n) {
        return random.nextInt(n);
    }

    /** Mostly a number below n, sometimes one that can't be. */
    private int some(int n) {
        int odds = wild ? 3 : 60;
        if (below(odds) == 0) {
            return below(2) == 0 ? ODD[below(ODD.length)] : n;
        }
        return below(Math.max(n, 1));
    }

    private int anyDay() {
        int near = Math.max(0, Math.min(99999, day + below(11) - 5));
        return below(3) == 0 ? some(scale + 1) : below(40) == 0 ? some(3) : near;
    }

    private int pastDay() {
        return below(3) == 0 ? anyDay() : below(30) == 0 ? day + 1 : Math.max(0, day - below(Math.min(scale, 30)));
    }

    private int someWork() {
        // Some works are asked for more often than others, so that more comes together.
        return some(giving ? Math.min(6, m.count(2)) : m.count(2));
    }

    private int someOwner() {
        return some(m.count(1));
    }

    private void step(String at) {
        int pick = giving && below(2) == 0 ? 70 + below(20) : below(100);
        if (pick < 30) {
            tell(at);
        } else if (pick < 40) {
            tellMore(at);
        } else if (pick < 47) {
            laws(at);
        } else if (pick < 70) {
            askAsKnown(at);
        } else if (pick < 85) {
            leaves(at);
        } else {
            lookAround(at);
        }
    }

    private void tell(String at) {
        switch (below(10)) {
            case 0: {
                int next = day + (below(20) == 0 ? below(scale) : below(1 + scale / 60));
                due(at + "now " + next, x.now(next), m.now(next));
                day = m.count(0);
                break;
            }
            case 1: {
                boolean firm = below(2) == 0;
                int land = some(4);
                due(at + "owner", x.owner(firm, land), m.owner(firm, land));
                break;
            }
            case 2: {
                int o = someOwner();
                int from = pastDay();
                int to = below(4) == 0 ? pastDay() : Math.min(from + below(3), day);
                due(at + "died", x.died(o, from, to), m.died(o, from, to));
                break;
            }
            case 3: {
                int a = someOwner();
                int b = someOwner();
                int d = anyDay();
                due(at + "merge", x.merge(a, b, d), m.merge(a, b, d));
                break;
            }
            case 4:
            case 5: {
                int kind = alike ? 0 : below(4) == 0 ? some(8) : some(3);
                int land = some(4);
                int from = anyDay();
                int to = from < 90000 ? from + below(alike ? 1 + scale / 4 : 8) : anyDay();
                int marks = below(3) == 0 ? some(256) : some(8);
                int in = below(2) == 0 ? -1 : someWork();
                due(at + "work", x.work(kind, land, from, to, marks, in), m.work(kind, land, from, to, marks, in));
                break;
            }
            default: {
                int w = someWork();
                int o = someOwner();
                int part = below(4) == 0 ? some(101) : some(40);
                due(at + "share", x.share(w, o, part), m.share(w, o, part));
                break;
            }
        }
    }

    private void tellMore(String at) {
        int s = some(12);
        switch (below(5)) {
            case 0: {
                int cost = below(2) == 0 ? some(10001) : some(5);
                due(at + "source", x.source(s, cost), m.source(s, cost));
                break;
            }
            case 1: {
                int kind = some(3);
                int part = below(3) == 0 ? 100 * below(2) : some(101);
                due(at + "chance", x.chance(s, kind, part), m.chance(s, kind, part));
                break;
            }
            case 2: {
                int o = someOwner();
                int d = pastDay();
                due(at + "letter", x.letter(o, d), m.letter(o, d));
                break;
            }
            case 3: {
                int k = some(m.count(5));
                if (below(2) == 0) {
                    due(at + "answer", x.answer(k), m.answer(k));
                }
                break;
            }
            default: {
                int w = someWork();
                int land = some(4);
                due(at + "list", x.list(w, land), m.list(w, land));
                break;
            }
        }
    }

    private void feed(String at, String text) {
        for (int i = 0; i < text.length(); i += 20) {
            int[] v = new int[5];
            for (int j = 0; j < 20; j++) {
                int b = i + j < text.length() ? text.charAt(i + j) & 255 : below(256);
                v[j / 4] = v[j / 4] << 8 | b;
            }
            due(at + "feed", x.feed(v[0], v[1], v[2], v[3], v[4]), m.feed(v));
        }
    }

    private void laws(String at) {
        if (below(12) == 0) {
            feed(at, "some that stays");
            return;
        }
        boolean stays = m.count(8) > 0;
        String text = texts.law();
        if (!stays) {
            feed(at, text);
        }
        int land = below(3) == 0 ? some(4) : 0;
        int from = below(3) == 0 ? anyDay() : 0;
        int to = below(3) == 0 ? anyDay() : 99999;
        int n = below(30) == 0 ? some(201) : text.length();
        due(at + "law " + text, x.law(land, from, to, n), m.law(land, from, to, n));
    }

    private void askAsKnown(String at) {
        int w = someWork();
        int land = below(3) == 0 ? some(4) : 0;
        int d = anyDay();
        int t = below(2) == 0 ? anyDay() : day;
        int o = someOwner();
        int i = some(4);
        int what = some(9);
        due(at + "number " + what, x.number(w, land, d, t, what), m.number(w, land, d, t, what));
        due(at + "holds", x.holds(w, i, d, t), m.holds(w, i, d, t));
        due(at + "term", x.term(w, land, d, t, i), m.term(w, land, d, t, i));
        due(at + "term", x.term(w, land, d, t, 1), m.term(w, land, d, t, 1));
        due(at + "free", x.free(w, land, d, t), m.free(w, land, d, t));
        due(at + "found", x.found(o, d, t), m.found(o, d, t));
        due(at + "enough", x.enough(w, land, d, t), m.enough(w, land, d, t));
        due(at + "why", x.why(w, land, d, t, i), m.why(w, land, d, t, i));
        due(at + "nobody", x.nobody(w, d, t), m.nobody(w, d, t));
    }

    private void leaves(String at) {
        int w = someWork();
        int k = some(m.count(6));
        int o = someOwner();
        int land = below(3) == 0 ? some(4) : 0;
        switch (below(10)) {
            case 0:
            case 1:
            case 2: {
                int library = some(10);
                int use = some(4);
                due(at + "ask", x.ask(library, w, land, use), m.ask(library, w, land, use));
                break;
            }
            case 3: {
                int d = giving ? day - below(3) : pastDay();
                int n = some(100001);
                int pence = some(100001);
                due(at + "uses", x.uses(k, d, n, pence), m.uses(k, d, n, pence));
                break;
            }
            case 4:
                if (below(giving ? 2 : 4) == 0) {
                    due(at + "comes", x.comes(o), m.comes(o));
                }
                break;
            case 5:
                due(at + "agree", x.agree(o, w), m.agree(o, w));
                break;
            case 6:
            case 7: {
                int s = some(12);
                int d = pastDay();
                int i = below(6) == 0 ? below(5) == 0 ? someOwner() : m.holds(w, below(4), 0, 0) : -1;
                due(at + "look", x.look(w, s, d, i), m.look(w, s, d, i));
                break;
            }
            default: {
                int what = some(9);
                due(at + "leave", x.leave(k, what), m.leave(k, what));
                due(at + "paid", x.paid(o, k), m.paid(o, k));
                break;
            }
        }
    }

    private void lookAround(String at) {
        int land = below(3) == 0 ? some(4) : 0;
        int w = someWork();
        int bits = some(9);
        switch (below(7)) {
            case 0: {
                if (Integer.bitCount(Math.max(0, m.number(w, land, day, day, 7))) < 7) {
                    int what = some(8) - 1;
                    due(at + "cheapest", x.cheapest(w, land, what), m.cheapest(w, land, what));
                    due(at + "cheapest", x.cheapest(w, land, -1), m.cheapest(w, land, -1));
                }
                break;
            }
            case 1:
                judge(at, w, land);
                break;
            case 2: {
                int v = someWork();
                due(at + "like", x.like(w, v, bits), m.like(w, v, bits));
                break;
            }
            case 3: {
                int other = 1 + some(3);
                int i = some(3);
                int what = some(2);
                due(at + "joined", x.joined(land, other, bits, i, what), m.joined(land, other, bits, i, what));
                break;
            }
            case 4: {
                int n = below(2) == 0 ? some(101) : some(6);
                int seed = some(65536);
                int what = some(20);
                due(at + "audit " + what, x.audit(n, seed, what), m.audit(n, seed, what));
                break;
            }
            case 5:
                due(at + "shown", x.shown(land), m.shown(land));
                break;
            default: {
                int what = some(122);
                due(at + "count " + what, x.count(what), m.count(what));
                break;
            }
        }
    }

    private void judge(String at, int w, int land) {
        int wanted = Math.max(0, m.number(w, land, day, day, 7));
        StringBuilder order = new StringBuilder();
        for (int i = 0; i < 30 && order.length() < Integer.bitCount(wanted); i++) {
            char s = (char) below(12);
            if ((wanted >> s & 1) != 0 && order.indexOf(String.valueOf(s)) < 0 || below(30) == 0) {
                order.append(s);
            }
        }
        if (m.count(8) == 0) {
            feed(at, order.toString());
        }
        int n = below(20) == 0 ? some(10) : order.length();
        due(at + "judge", x.judge(w, land, n), m.judge(w, land, n));
    }
}
