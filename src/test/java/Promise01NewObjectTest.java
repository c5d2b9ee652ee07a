/** Promise 1: A new object: DAY 0; no OWNERS, WORKS, LAWS. */
public final class Promise01NewObjectTest {
    private static final Checks P = new Checks("promise 1, a new object");
    private static final int NONE = OrphanShelf.NONE;

    public static void main(String[] args) {
        theConstant();
        dayZero();
        noOwners();
        noWorks();
        noLaws();
        anEmptyTape();
        nothingIsGivenOrListed();
        oneBesideAnother();
        P.end();
    }

    private static void theConstant() {
        P.due("NONE", OrphanShelf.NONE, -1);
    }

    private static void dayZero() {
        OrphanShelf x = new OrphanShelf();
        P.due("NOW is DAY 0", x.count(0), 0);
        Shelves.works(x, 1);
        P.due("a look on day 1 is behind NOW", x.look(0, 0, 1, NONE), NONE);
        P.due("a look on day 0 is not", x.look(0, 0, 0, NONE), 0);
    }

    private static void noOwners() {
        OrphanShelf x = new OrphanShelf();
        P.due("OWNERS", x.count(1), 0);
        P.due("found(0)", x.found(0, 0, 0), NONE);
        P.due("letter(0)", x.letter(0, 0), NONE);
        P.due("comes(0)", x.comes(0), NONE);
        P.due("died(0)", x.died(0, 0, 0), false);
        P.due("merge(0, 0)", x.merge(0, 0, 0), false);
        P.due("LETTERS", x.count(5), 0);
        P.due("answer(0)", x.answer(0), false);
        P.due("the first OWNER", x.owner(false, 0), 0);
    }

    private static void noWorks() {
        OrphanShelf x = new OrphanShelf();
        P.due("WORKS", x.count(2), 0);
        P.due("SHARES of WORK 0", x.count(40), NONE);
        P.due("holds(0)", x.holds(0, 0, 0, 0), NONE);
        P.due("number(0)", x.number(0, 0, 0, 0, 0), NONE);
        P.due("nobody(0)", x.nobody(0, 0, 0), NONE);
        P.due("cheapest(0)", x.cheapest(0, 0, NONE), NONE);
        P.due("LOOKS", x.count(4), 0);
        P.due("look(0)", x.look(0, 0, 0, NONE), NONE);
        P.due("list(0)", x.list(0, 0), false);
        P.due("the first WORK", x.work(0, 0, 0, 0, 0, NONE), 0);
        P.due("it has no SHARES", x.count(40), 0);
    }

    private static void noLaws() {
        OrphanShelf x = new OrphanShelf();
        P.due("LAWS", x.count(3), 0);
        P.due("CLAUSES of LAW 0", x.count(20), NONE);
        Shelves.works(x, 1);
        int[] without = {0, 0, NONE, NONE, 0, 0, NONE, 0, 0};
        for (int what = 0; what < without.length; what++) {
            for (int land = 0; land < 4; land++) {
                P.due("number " + what + " in LAND " + land, x.number(0, land, 0, 0, what), without[what]);
            }
        }
        P.due("the first LAW", Shelves.law(x, 0, "a1"), 0);
    }

    private static void anEmptyTape() {
        OrphanShelf x = new OrphanShelf();
        P.due("bytes of the tape", x.count(8), 0);
        P.due("a LAW of one byte", x.law(0, 0, 9, 1), NONE);
        Shelves.works(x, 1);
        P.due("an order of one byte", x.judge(0, 0, 1), NONE);
        P.due("the first twenty", x.feed(0, 0, 0, 0, 0), 20);
    }

    private static void nothingIsGivenOrListed() {
        OrphanShelf x = new OrphanShelf();
        P.due("LEAVES", x.count(6), 0);
        P.due("tellings of USES", x.count(7), 0);
        P.due("leave(0, 0)", x.leave(0, 0), NONE);
        P.due("uses(0)", x.uses(0, 0, 1, 1), false);
        P.due("audit", x.audit(1, 0, 0), NONE);
        for (int land = 0; land < 4; land++) {
            P.due("the list of LAND " + land, x.count(10 + land), 0);
            P.due("shown(" + land + ")", x.shown(land), 0);
        }
    }

    /** No object knows of what another one was told. */
    private static void oneBesideAnother() {
        String difference = Sight.difference(Promise01NewObjectTest::besideAnother, OrphanShelf::new);
        P.due("another object: " + difference, difference.isEmpty(), true);
    }

    private static OrphanShelf besideAnother() {
        OrphanShelf one = new OrphanShelf();
        OrphanShelf other = new OrphanShelf();
        one.now(500);
        Shelves.persons(one, 3);
        Shelves.works(one, 3);
        Shelves.law(one, 0, "s0;p0");
        Shelves.source(one, 0, 7, 7);
        Shelves.feed(one, "a1");
        one.look(0, 0, 0, NONE);
        one.ask(0, 0, 0, 0);
        return other;
    }
}
