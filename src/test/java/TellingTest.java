/** Promises 1 to 8, 14 to 19, 23, 36: what is told, and how much of it. */
public final class TellingTest {
    private static final Checks CHECKS = new Checks("telling");
    private static final int NONE = OrphanShelf.NONE;

    public static void main(String[] args) {
        aNewObject();
        days();
        owners();
        deaths();
        merging();
        works();
        shares();
        holders();
        holdersInChains();
        sources();
        looks();
        letters();
        found();
        agreeing();
        counts();
        CHECKS.end();
    }

    private static void due(String call, long got, long want) {
        CHECKS.due(call, got, want);
    }

    private static void due(String call, boolean got, boolean want) {
        CHECKS.due(call, got, want);
    }

    private static void aNewObject() {
        OrphanShelf x = new OrphanShelf();
        for (int what = 0; what <= 8; what++) {
            due("new: count(" + what + ")", x.count(what), 0);
        }
        for (int land = 0; land < 4; land++) {
            due("new: list", x.count(10 + land), 0);
            due("new: shown", x.shown(land), 0);
        }
        due("new: law 0", x.count(20), NONE);
        due("new: work 0", x.count(40), NONE);
        due("new: leave", x.leave(0, 0), NONE);
        due("NONE", OrphanShelf.NONE, -1);
    }

    private static void days() {
        OrphanShelf x = new OrphanShelf();
        due("now(-1)", x.now(-1), false);
        due("now(0)", x.now(0), true);
        due("now(7)", x.now(7), true);
        due("now(7) again", x.now(7), true);
        due("now(6)", x.now(6), false);
        due("now stays", x.count(0), 7);
        due("now(100000)", x.now(100000), false);
        due("now(99999)", x.now(99999), true);
        due("now(MIN)", x.now(Integer.MIN_VALUE), false);
        due("now at the end", x.count(0), 99999);
    }

    private static void owners() {
        OrphanShelf x = new OrphanShelf();
        due("owner(land -1)", x.owner(false, -1), NONE);
        due("owner(land 4)", x.owner(true, 4), NONE);
        for (int o = 0; o < 40; o++) {
            due("owner " + o, x.owner(o % 2 == 1, o % 4), o);
        }
        due("a 41st owner", x.owner(false, 0), NONE);
        due("owners", x.count(1), 40);
    }

    private static void deaths() {
        OrphanShelf x = new OrphanShelf();
        x.owner(false, 0);
        x.owner(true, 0);
        x.now(1000);
        due("died: nobody", x.died(2, 1, 1), false);
        due("died: -1", x.died(-1, 1, 1), false);
        due("died: a firm", x.died(1, 1, 1), false);
        due("died: backwards", x.died(0, 6, 5), false);
        due("died: ahead of day 0", x.died(0, -1, 5), false);
        due("died: behind now", x.died(0, 1000, 1001), false);
        due("died: up to now", x.died(0, 1000, 1000), true);
        for (int i = 1; i < 200; i++) {
            due("died " + i, x.died(0, 0, i), true);
        }
        due("a 201st death", x.died(0, 0, 0), false);
        int w = x.work(0, 0, 0, 0, 0, NONE);
        x.share(w, 0, 1);
        Checks.law(x, 0, "t0");
        due("the latest telling counts", x.term(w, 0, 5, 1000, 1), 199);
        due("the first day of it", x.term(w, 0, 5, 1000, 0), 0);
        due("not known yet", x.term(w, 0, 5, 999, 1), NONE);
    }

    private static void merging() {
        OrphanShelf x = new OrphanShelf();
        for (int i = 0; i < 5; i++) {
            x.owner(true, 0);
        }
        x.owner(false, 0);
        due("merge: no such", x.merge(0, 6, 0), false);
        due("merge: no such a", x.merge(-1, 0, 0), false);
        due("merge: a person", x.merge(5, 0, 0), false);
        due("merge: into a person", x.merge(0, 5, 0), false);
        due("merge: day -1", x.merge(0, 1, -1), false);
        due("merge: day 100000", x.merge(0, 1, 100000), false);
        due("merge: itself", x.merge(0, 0, 0), false);
        due("merge: behind now", x.merge(0, 1, 99999), true);
        due("merge: told twice", x.merge(0, 2, 5), false);
        due("merge: a ring of two", x.merge(1, 0, 0), false);
        due("merge 1 into 2", x.merge(1, 2, 0), true);
        due("merge 2 into 3", x.merge(2, 3, 0), true);
        due("merge: a ring of four", x.merge(3, 0, 0), false);
        due("merge: a ring of three", x.merge(3, 1, 0), false);
        due("merge: two into one", x.merge(4, 3, 0), true);
    }

    private static void works() {
        OrphanShelf x = new OrphanShelf();
        due("kind -1", x.work(-1, 0, 0, 0, 0, NONE), NONE);
        due("kind 8", x.work(8, 0, 0, 0, 0, NONE), NONE);
        due("land -1", x.work(0, -1, 0, 0, 0, NONE), NONE);
        due("land 4", x.work(0, 4, 0, 0, 0, NONE), NONE);
        due("from -1", x.work(0, 0, -1, 0, 0, NONE), NONE);
        due("to 100000", x.work(0, 0, 0, 100000, 0, NONE), NONE);
        due("backwards", x.work(0, 0, 2, 1, 0, NONE), NONE);
        due("marks -1", x.work(0, 0, 0, 0, -1, NONE), NONE);
        due("marks 256", x.work(0, 0, 0, 0, 256, NONE), NONE);
        due("in itself", x.work(0, 0, 0, 0, 0, 0), NONE);
        due("in -2", x.work(0, 0, 0, 0, 0, -2), NONE);
        due("the first", x.work(7, 3, 0, 99999, 255, NONE), 0);
        for (int i = 1; i < 8; i++) {
            due("the " + i + "th in another", x.work(0, 0, 0, 0, 0, i - 1), i);
        }
        due("a ninth", x.work(0, 0, 0, 0, 0, 7), NONE);
        due("beside the eighth", x.work(0, 0, 0, 0, 0, 6), 8);
        for (int i = 9; i < 80; i++) {
            due("work " + i, x.work(0, 0, 5, 5, 1, NONE), i);
        }
        due("an 81st", x.work(0, 0, 0, 0, 0, NONE), NONE);
        due("works", x.count(2), 80);
    }

    private static void shares() {
        OrphanShelf x = new OrphanShelf();
        for (int i = 0; i < 6; i++) {
            x.owner(false, 0);
        }
        int w = x.work(0, 0, 0, 0, 0, NONE);
        int v = x.work(0, 0, 0, 0, 0, NONE);
        due("no such work", x.share(2, 0, 10), false);
        due("work -1", x.share(-1, 0, 10), false);
        due("no such owner", x.share(w, 6, 10), false);
        due("owner -1", x.share(w, -1, 10), false);
        due("0 hundredths", x.share(w, 0, 0), false);
        due("-1 hundredths", x.share(w, 0, -1), false);
        due("101 hundredths", x.share(w, 0, 101), false);
        due("MAX hundredths", x.share(w, 0, Integer.MAX_VALUE), false);
        due("MIN hundredths", x.share(w, 0, Integer.MIN_VALUE), false);
        due("1 hundredth", x.share(w, 0, 1), true);
        due("has one", x.share(w, 0, 1), false);
        due("100 more", x.share(w, 1, 100), false);
        due("97", x.share(w, 1, 97), true);
        due("the third", x.share(w, 2, 1), true);
        due("too much", x.share(w, 3, 2), false);
        due("the fourth", x.share(w, 3, 1), true);
        due("a fifth", x.share(w, 4, 1), false);
        due("all of another", x.share(v, 0, 100), true);
        int u = x.work(0, 0, 0, 0, 0, NONE);
        for (int i = 0; i < 4; i++) {
            due("one of four", x.share(u, i, 10), true);
        }
        due("a fifth, with room for it", x.share(u, 4, 10), false);
        due("shares", x.count(40 + w), 4);
        due("shares of the other", x.count(40 + v), 1);
        for (int i = 0; i < 4; i++) {
            due("who holds " + i, x.holds(w, i, 0, 0), i);
        }
    }

    private static void holders() {
        OrphanShelf x = new OrphanShelf();
        x.now(100);
        for (int i = 0; i < 3; i++) {
            x.owner(true, 0);
        }
        int w = x.work(0, 0, 0, 0, 0, NONE);
        x.share(w, 0, 10);
        x.share(w, 1, 10);
        due("no such work", x.holds(1, 0, 0, 0), NONE);
        due("work -1", x.holds(-1, 0, 0, 0), NONE);
        due("share -1", x.holds(w, -1, 0, 0), NONE);
        due("share 2", x.holds(w, 2, 0, 0), NONE);
        due("share MAX", x.holds(w, Integer.MAX_VALUE, 0, 0), NONE);
        due("day -1", x.holds(w, 0, -1, 0), NONE);
        due("day 100000", x.holds(w, 0, 100000, 0), NONE);
        due("known -1", x.holds(w, 0, 0, -1), NONE);
        due("known 100000", x.holds(w, 0, 0, 100000), NONE);
        x.merge(0, 1, 200);
        due("the day ahead", x.holds(w, 0, 199, 100), 0);
        due("from that day on", x.holds(w, 0, 200, 100), 1);
        due("not known yet", x.holds(w, 0, 200, 99), 0);
        due("the last day", x.holds(w, 0, 99999, 99999), 1);
    }

    private static void holdersInChains() {
        OrphanShelf x = new OrphanShelf();
        for (int i = 0; i < 40; i++) {
            x.owner(true, 0);
        }
        int w = x.work(0, 0, 0, 0, 0, NONE);
        x.share(w, 0, 10);
        for (int i = 0; i < 39; i++) {
            x.now(i);
            due("merge " + i, x.merge(i, i + 1, i == 20 ? 500 : 10), true);
        }
        due("a gap on that day", x.holds(w, 0, 499, 99), 20);
        due("no gap any more", x.holds(w, 0, 500, 99), 39);
        due("ahead of all", x.holds(w, 0, 9, 99), 0);
        due("as known on 5", x.holds(w, 0, 500, 5), 6);
        due("a long ring", x.merge(39, 0, 0), false);
    }

    private static void sources() {
        OrphanShelf x = new OrphanShelf();
        due("source -1", x.source(-1, 0), false);
        due("source 12", x.source(12, 0), false);
        due("cost -1", x.source(0, -1), false);
        due("cost 10001", x.source(0, 10001), false);
        due("cost 10000", x.source(11, 10000), true);
        due("chance: source -1", x.chance(-1, 0, 0), false);
        due("chance: source 12", x.chance(12, 0, 0), false);
        due("chance: kind -1", x.chance(0, -1, 0), false);
        due("chance: kind 8", x.chance(0, 8, 0), false);
        due("chance: -1", x.chance(0, 0, -1), false);
        due("chance: 101", x.chance(0, 0, 101), false);
        due("chance: 100", x.chance(0, 7, 100), true);
        int w = x.work(7, 0, 0, 0, 0, NONE);
        int v = x.work(6, 0, 0, 0, 0, NONE);
        Checks.law(x, 0, "s0;s11;s5");
        due("0 at first", x.cheapest(w, 0, NONE), 0);
        due("a cost alone", x.cheapest(v, 0, NONE), 10000L * 1000000);
        due("cost again", x.source(11, 3), true);
        due("the new cost", x.cheapest(v, 0, NONE), 3000000);
        due("chance again", x.chance(0, 7, 50), true);
        due("the new chance", x.cheapest(w, 0, NONE), 1500000);
    }

    private static void looks() {
        OrphanShelf x = new OrphanShelf();
        x.owner(false, 0);
        x.owner(false, 0);
        int w = x.work(0, 0, 0, 0, 0, NONE);
        x.share(w, 1, 5);
        x.now(10);
        due("no such work", x.look(1, 0, 0, NONE), NONE);
        due("work -1", x.look(-1, 0, 0, NONE), NONE);
        due("source -1", x.look(w, -1, 0, NONE), NONE);
        due("source 12", x.look(w, 12, 0, NONE), NONE);
        due("day -1", x.look(w, 0, -1, NONE), NONE);
        due("behind now", x.look(w, 0, 11, NONE), NONE);
        due("has no share", x.look(w, 0, 5, 0), NONE);
        due("no such owner", x.look(w, 0, 5, 2), NONE);
        due("owner -2", x.look(w, 0, 5, -2), NONE);
        due("nothing was told", x.count(4), 0);
        for (int i = 0; i < 300; i++) {
            due("look " + i, x.look(w, i % 12, 10, i == 299 ? 1 : NONE), i);
        }
        due("a 301st", x.look(w, 0, 0, NONE), NONE);
        due("looks", x.count(4), 300);
        due("who was found", x.found(1, 10, 10), 1);
        due("who was not", x.found(0, 10, 10), 0);
    }

    private static void letters() {
        OrphanShelf x = new OrphanShelf();
        x.owner(false, 0);
        x.owner(true, 0);
        x.now(10);
        due("no such owner", x.letter(2, 0), NONE);
        due("owner -1", x.letter(-1, 0), NONE);
        due("day -1", x.letter(0, -1), NONE);
        due("behind now", x.letter(0, 11), NONE);
        due("no answer to none", x.answer(0), false);
        for (int i = 0; i < 200; i++) {
            due("letter " + i, x.letter(i % 2, 10), i);
        }
        due("a 201st", x.letter(0, 0), NONE);
        due("letters", x.count(5), 200);
        due("answer(-1)", x.answer(-1), false);
        due("answer(200)", x.answer(200), false);
        due("answer(199)", x.answer(199), true);
        due("answer(199) again", x.answer(199), false);
        due("found", x.found(1, 10, 10), 1);
        due("not the other", x.found(0, 10, 10), 0);
    }

    private static void found() {
        OrphanShelf x = new OrphanShelf();
        for (int i = 0; i < 3; i++) {
            x.owner(false, 0);
        }
        int w = x.work(0, 0, 0, 0, 0, NONE);
        x.share(w, 0, 5);
        x.now(50);
        x.look(w, 3, 20, 0);
        due("found by a look on its day", x.found(0, 20, 50), 1);
        due("not ahead of it", x.found(0, 19, 50), 0);
        due("not known yet", x.found(0, 20, 49), 0);
        x.letter(1, 5);
        x.now(60);
        x.answer(0);
        due("found by an answer on that day", x.found(1, 60, 60), 1);
        due("not on the letter's day", x.found(1, 59, 60), 0);
        due("the answer is not known yet", x.found(1, 60, 59), 0);
        x.now(70);
        due("comes", x.comes(2), 0);
        due("found by coming", x.found(2, 70, 70), 1);
        due("not ahead of it", x.found(2, 69, 70), 0);
        due("the coming is not known yet", x.found(2, 70, 69), 0);
        due("days behind now", x.found(2, 99999, 99999), 1);
        due("no such owner", x.found(3, 0, 0), NONE);
        due("owner -1", x.found(-1, 0, 0), NONE);
        due("day -1", x.found(0, -1, 0), NONE);
        due("day 100000", x.found(0, 100000, 0), NONE);
        due("known -1", x.found(0, 0, -1), NONE);
        due("known 100000", x.found(0, 0, 100000), NONE);
    }

    private static void agreeing() {
        OrphanShelf x = new OrphanShelf();
        for (int i = 0; i < 5; i++) {
            x.owner(false, 0);
        }
        for (int i = 0; i < 50; i++) {
            x.work(0, 0, 0, 0, 0, NONE);
        }
        due("no such owner", x.agree(5, 0), false);
        due("owner -1", x.agree(-1, 0), false);
        due("no such work", x.agree(0, 50), false);
        due("work -1", x.agree(0, -1), false);
        for (int i = 0; i < 200; i++) {
            due("agree " + i, x.agree(i % 4, i / 4), true);
            due("it has " + i, x.agree(i % 4, i / 4), false);
        }
        due("a 201st", x.agree(4, 0), false);
    }

    private static void counts() {
        OrphanShelf x = new OrphanShelf();
        x.now(3);
        x.owner(false, 0);
        x.work(0, 0, 0, 0, 0, NONE);
        x.work(0, 0, 0, 0, 0, NONE);
        x.share(1, 0, 5);
        Checks.law(x, 2, "p0;p1;x0.0");
        x.look(0, 0, 0, NONE);
        x.look(0, 0, 0, NONE);
        x.letter(0, 0);
        x.list(1, 3);
        Checks.feed(x, "abc");
        long[] due = {3, 1, 2, 1, 2, 1, 0, 0, 20, NONE, 0, 0, 0, 1, NONE, NONE, NONE, NONE, NONE, NONE, 3, NONE};
        for (int what = 0; what < due.length; what++) {
            due("count(" + what + ")", x.count(what), due[what]);
        }
        due("count(39)", x.count(39), NONE);
        due("count(40)", x.count(40), 0);
        due("count(41)", x.count(41), 1);
        due("count(42)", x.count(42), NONE);
        due("count(119)", x.count(119), NONE);
        due("count(120)", x.count(120), NONE);
        due("count(-1)", x.count(-1), NONE);
        due("count(MIN)", x.count(Integer.MIN_VALUE), NONE);
        due("count(MAX)", x.count(Integer.MAX_VALUE), NONE);
    }
}
