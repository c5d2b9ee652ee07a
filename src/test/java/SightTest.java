/** That Sight sees: each call that is taken makes a shelf look otherwise, and one that only asks does not. */
public final class SightTest {
    private static final Checks CHECKS = new Checks("sight");
    private static final int NONE = OrphanShelf.NONE;

    public static void main(String[] args) {
        tellingIsSeen();
        askingIsNot();
        CHECKS.end();
    }

    private static void shelf(OrphanShelf x) {
        x.now(50);
        Shelves.persons(x, 2);
        Shelves.firms(x, 3);
        x.work(0, 0, 0, 9, 1, NONE);
        x.work(0, 0, 0, 9, 3, 0);
        x.share(0, 0, 30);
        x.share(0, 2, 30);
        x.share(1, 1, 50);
        Shelves.law(x, 0, "p0;p1;s0(k=9);t1;u200;w50;l9(d>90000)");
        Shelves.law(x, 1, "s0;s3");
        Shelves.source(x, 0, 5, 50);
        Shelves.source(x, 3, 7, 50);
        x.letter(0, 3);
        x.comes(1);
        x.ask(0, 0, 0, 0);
    }

    private static void isSeen(String call, Checks.Making telling) {
        String difference = Sight.difference(() -> {
            OrphanShelf x = Checks.made(SightTest::shelf);
            telling.on(x);
            return x;
        }, () -> Checks.made(SightTest::shelf));
        CHECKS.due(call + " is seen", difference.isEmpty(), false);
    }

    private static void tellingIsSeen() {
        isSeen("now", x -> x.now(51));
        isSeen("owner", x -> x.owner(false, 0));
        isSeen("died", x -> x.died(0, 1, 2));
        isSeen("merge", x -> x.merge(2, 3, 50));
        isSeen("merge of a day to come", x -> x.merge(2, 3, 70000));
        isSeen("merge of what holds nothing", x -> x.merge(4, 3, 0));
        isSeen("work", x -> x.work(0, 0, 0, 0, 0, NONE));
        isSeen("share", x -> x.share(1, 0, 1));
        isSeen("feed", x -> x.feed(0, 0, 0, 0, 0));
        isSeen("law", x -> Shelves.law(x, 0, "f9"));
        isSeen("a law of a later day", x -> Shelves.law(x, 3, 60, 70, "f9"));
        isSeen("source", x -> x.source(3, 8));
        isSeen("chance", x -> x.chance(0, 0, 51));
        isSeen("look", x -> x.look(1, 11, 50, NONE));
        isSeen("look that finds", x -> x.look(0, 11, 50, 2));
        isSeen("letter", x -> x.letter(4, 50));
        isSeen("answer", x -> x.answer(0));
        isSeen("agree", x -> x.agree(1, 1));
        isSeen("ask", x -> x.ask(0, 0, 0, 1));
        isSeen("uses", x -> x.uses(0, 50, 1, 100));
        isSeen("comes", x -> x.comes(0));
        isSeen("list", x -> x.list(1, 3));
    }

    private static void askingIsNot() {
        CHECKS.isRefused("holds", SightTest::shelf, x -> x.holds(0, 1, 50, 50), 2);
        CHECKS.isRefused("number", SightTest::shelf, x -> x.number(0, 0, 50, 50, 5), 50);
        CHECKS.isRefused("term", SightTest::shelf, x -> x.term(0, 0, 50, 50, 0), NONE);
        CHECKS.isRefused("free", SightTest::shelf, x -> x.free(0, 0, 50, 50), 0);
        CHECKS.isRefused("found", SightTest::shelf, x -> x.found(1, 50, 50), 1);
        CHECKS.isRefused("enough", SightTest::shelf, x -> x.enough(0, 1, 50, 50), 0);
        CHECKS.isRefused("why", SightTest::shelf, x -> x.why(0, 1, 50, 50, 2), 0);
        CHECKS.isRefused("nobody", SightTest::shelf, x -> x.nobody(1, 50, 50), 0);
        CHECKS.isRefused("paid", SightTest::shelf, x -> x.paid(1, 0), 0);
        CHECKS.isRefused("cheapest", SightTest::shelf, x -> x.cheapest(0, 1, 1), 3);
        CHECKS.isRefused("like", SightTest::shelf, x -> x.like(0, 1, 1), 1);
        CHECKS.isRefused("joined", SightTest::shelf, x -> x.joined(0, 1, 1, 0, 0), NONE);
        CHECKS.isRefused("audit", SightTest::shelf, x -> x.audit(1, 0, 10), 0);
        CHECKS.isRefused("shown", SightTest::shelf, x -> x.shown(0), 1);
        CHECKS.isRefused("leave", SightTest::shelf, x -> x.leave(0, 4), 50);
        CHECKS.isRefused("count", SightTest::shelf, x -> x.count(20), 7);
    }
}
