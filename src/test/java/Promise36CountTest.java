/** Promise 36: count. NOW, OWNERS, WORKS, and so on; lists, CLAUSES, SHARES; NONE for others. */
public final class Promise36CountTest {
    private static final Checks P = new Checks("promise 36, count");
    private static final int NONE = OrphanShelf.NONE;

    public static void main(String[] args) {
        ofAShelf();
        eachOfItsOwn();
        lists();
        clauses();
        shares();
        others();
        P.end();
    }

    private static void shelf(OrphanShelf x) {
        x.now(3);
        Shelves.persons(x, 1);
        Shelves.works(x, 2);
        x.share(1, 0, 5);
        Shelves.law(x, 2, "p0;p1;x0.0");
        x.look(0, 0, 0, NONE);
        x.look(0, 0, 0, NONE);
        x.letter(0, 0);
        x.list(1, 3);
        x.ask(0, 0, 2, 0);
        x.ask(0, 0, 2, 0);
        x.ask(0, 0, 2, 0);
        for (int i = 0; i < 5; i++) {
            x.uses(0, 3, 1, 1);
        }
        Shelves.feed(x, "abc");
    }

    private static void ofAShelf() {
        OrphanShelf x = Checks.made(Promise36CountTest::shelf);
        long[] due = {3, 1, 2, 1, 2, 1, 3, 5, 20, NONE, 0, 0, 0, 1, NONE, NONE, NONE, NONE, NONE, NONE, 3, NONE};
        for (int what = 0; what < due.length; what++) {
            P.due("count(" + what + ")", x.count(what), due[what]);
        }
    }

    /** Every telling counts at its own place alone. */
    private static void eachOfItsOwn() {
        Checks.Asking[] tellings = {x -> x.now(9) ? 0 : 1, x -> x.owner(true, 0), x -> x.work(0, 0, 0, 0, 0, NONE),
            x -> {
                x.feed(0x61310000, 0, 0, 0, 0);
                return x.law(0, 0, 9, 2);
            }, x -> x.look(0, 0, 0, NONE), x -> x.letter(0, 0), x -> x.ask(0, 0, 0, 0), x -> {
                return x.uses(0, 3, 1, 1) ? 0 : 1;
            }, x -> x.feed(0, 0, 0, 0, 0)};
        int[] by = {6, 1, 1, 1, 1, 1, 1, 1, 20};
        for (int i = 0; i < tellings.length; i++) {
            OrphanShelf x = new OrphanShelf();
            x.now(3);
            Shelves.persons(x, 1);
            Shelves.works(x, 1);
            Shelves.law(x, 0, "p0");
            x.ask(0, 0, 0, 0);
            int[] before = {3, 1, 1, 1, 0, 0, 1, 0, 0};
            tellings[i].on(x);
            for (int what = 0; what < 9; what++) {
                P.due("count(" + what + ") by " + i, x.count(what), before[what] + (what == i ? by[i] : 0));
            }
        }
    }

    private static void lists() {
        OrphanShelf x = new OrphanShelf();
        Shelves.works(x, 4);
        for (int land = 0; land < 4; land++) {
            for (int w = 0; w <= land; w++) {
                x.list(w, land);
            }
        }
        for (int land = 0; land < 4; land++) {
            P.due("the list of LAND " + land, x.count(10 + land), land + 1);
        }
        P.due("count(9)", x.count(9), NONE);
        P.due("count(14)", x.count(14), NONE);
    }

    private static void clauses() {
        OrphanShelf x = new OrphanShelf();
        StringBuilder text = new StringBuilder("a1");
        for (int i = 0; i < 20; i++) {
            P.due("not there yet", x.count(20 + i), NONE);
            Shelves.law(x, 0, text.toString());
            P.due("CLAUSES of LAW " + i, x.count(20 + i), Math.min(i + 1, 12));
            text.append(i < 11 ? ";a1" : "");
        }
        P.due("count(19)", x.count(19), NONE);
        P.due("WORK 0", x.count(40), NONE);
    }

    private static void shares() {
        OrphanShelf x = new OrphanShelf();
        Shelves.persons(x, 4);
        for (int w = 0; w < 80; w++) {
            P.due("not there yet", x.count(40 + w), NONE);
            x.work(0, 0, 0, 0, 0, NONE);
            P.due("none", x.count(40 + w), 0);
        }
        for (int w : new int[] {0, 40, 79}) {
            for (int o = 0; o < 4; o++) {
                x.share(w, o, 5);
                P.due("SHARES of WORK " + w, x.count(40 + w), o + 1);
            }
        }
        P.due("count(39)", x.count(39), NONE);
        P.due("count(120)", x.count(120), NONE);
    }

    private static void others() {
        int[] others = {-1, 9, 14, 15, 19, 21, 39, 42, 119, 120, 121, 1000, Integer.MIN_VALUE, Integer.MAX_VALUE};
        for (int what : others) {
            P.isNone("count(" + what + ")", Promise36CountTest::shelf, x -> x.count(what));
        }
    }
}
