/** Promise 26: comes. An OWNER COMES at NOW: LEAVES of all WORKS of which that one HOLDS a SHARE today end. */
public final class Promise26ComesTest {
    private static final Checks P = new Checks("promise 26, comes");
    private static final int NONE = OrphanShelf.NONE;

    public static void main(String[] args) {
        leavesEndToday();
        noSuchOne();
        itCameAlready();
        endedByThen();
        whoHoldsAShareToday();
        partsThatAreNotYet();
        partsThatAreToldToday();
        freeOnesDoNot();
        givenLaterDoNot();
        aHundredAtOnce();
        P.end();
    }

    /** PERSONS 0 and 1, FIRMS 2 and 3; WORKS 0, 1, and 2 in 0; DAY 100. */
    private static void shelf(OrphanShelf x, String law) {
        Shelves.persons(x, 2);
        Shelves.firms(x, 2);
        Shelves.works(x, 2);
        x.work(0, 0, 0, 0, 0, 0);
        x.now(100);
        Shelves.law(x, 0, law);
    }

    private static OrphanShelf made(String law) {
        return Checks.made(x -> shelf(x, law));
    }

    private static void leavesEndToday() {
        OrphanShelf x = made("p0");
        x.share(0, 0, 1);
        x.share(1, 0, 1);
        for (int w = 0; w < 3; w++) {
            x.ask(0, w, 0, 0);
        }
        x.ask(0, 0, 0, 0);
        x.now(105);
        P.due("of both WORKS, all of them", x.comes(0), 3);
        P.due("of the one", x.leave(0, 6), 105);
        P.due("of the other", x.leave(1, 6), 105);
        P.due("not of what lies in it", x.leave(2, 6), NONE);
        P.due("the second of the one", x.leave(3, 6), 105);
        P.due("found", x.found(0, 105, 105), 1);
        P.due("one who has no SHARE", x.comes(1), 0);
        P.due("is found, too", x.found(1, 105, 105), 1);
    }

    private static void given(OrphanShelf x) {
        shelf(x, "p0;e50");
        x.share(0, 0, 10);
        x.ask(0, 0, 0, 0);
    }

    private static void noSuchOne() {
        for (int o : new int[] {-1, 4, 39, 40, Integer.MIN_VALUE, Integer.MAX_VALUE}) {
            P.isNone("OWNER " + o, Promise26ComesTest::given, x -> x.comes(o));
        }
        OrphanShelf x = new OrphanShelf();
        Shelves.persons(x, 40);
        P.due("the last OWNER", x.comes(39), 0);
        P.due("came already", x.comes(39), NONE);
    }

    private static void itCameAlready() {
        Checks.Making came = x -> {
            given(x);
            x.comes(0);
        };
        P.isNone("today", came, x -> x.comes(0));
        Checks.Making later = x -> {
            came.on(x);
            x.now(120);
            x.agree(0, 0);
            x.ask(0, 0, 0, 0);
        };
        P.isNone("later, with a new LEAVE", later, x -> x.comes(0));
        OrphanShelf x = Checks.made(later);
        P.due("again", x.comes(0), NONE);
        P.due("the new LEAVE lasts", x.leave(1, 6), 170);
        P.due("found since the first coming", x.found(0, 100, 100), 1);
        OrphanShelf y = new OrphanShelf();
        Shelves.persons(y, 1);
        P.due("on DAY 0", y.comes(0), 0);
        P.due("again on DAY 0", y.comes(0), NONE);
    }

    private static void endedByThen() {
        OrphanShelf x = made("p0;e10");
        x.share(0, 0, 10);
        x.share(0, 1, 10);
        x.ask(0, 0, 0, 0);
        x.now(101);
        x.ask(0, 0, 0, 0);
        x.now(110);
        P.due("one has ended by LAW, one lasts a DAY more", x.comes(0), 1);
        P.due("the end by LAW", x.leave(0, 6), 110);
        P.due("the end by coming", x.leave(1, 6), 110);
        x.now(112);
        P.due("nothing is left to end", x.comes(1), 0);
        P.due("the end stays", x.leave(1, 6), 110);
        OrphanShelf y = made("p0");
        y.share(0, 0, 1);
        y.share(0, 1, 10);
        y.ask(0, 0, 0, 0);
        P.due("the first ends it", y.comes(0), 1);
        P.due("the second, that DAY", y.comes(1), 0);
        P.due("its end", y.leave(0, 6), 100);
    }

    private static void whoHoldsAShareToday() {
        OrphanShelf x = made("p0");
        x.share(0, 2, 10);
        x.share(0, 1, 10);
        x.merge(2, 3, 102);
        x.ask(0, 0, 0, 0);
        x.now(102);
        P.due("the part holds none any more", x.comes(2), 0);
        P.due("lasts still", x.leave(0, 6), NONE);
        x.now(103);
        P.due("who holds it", x.comes(3), 1);
        P.due("ended", x.leave(0, 6), 103);
    }

    private static void partsThatAreNotYet() {
        OrphanShelf x = made("p0");
        x.share(0, 2, 10);
        x.merge(2, 3, 102);
        x.ask(0, 0, 0, 0);
        x.now(101);
        P.due("it holds none yet", x.comes(3), 0);
        P.due("the part holds it still", x.comes(2), 1);
        P.due("ended", x.leave(0, 6), 101);
    }

    private static void partsThatAreToldToday() {
        OrphanShelf x = made("p0");
        x.share(0, 2, 10);
        x.ask(0, 0, 0, 0);
        x.now(102);
        x.merge(2, 3, 102);
        P.due("the part holds none any more", x.comes(2), 0);
        P.due("who holds it", x.comes(3), 1);
        P.due("ended", x.leave(0, 6), 102);
    }

    private static void freeOnesDoNot() {
        OrphanShelf x = made("u0(k=0);u0(d=100);p0;u9(d=101)");
        x.share(0, 0, 10);
        P.due("FREE today", x.ask(0, 0, 0, 0), 0);
        x.now(101);
        P.due("not FREE today", x.ask(0, 0, 0, 0), 1);
        P.due("one of the two ends", x.comes(0), 1);
        P.due("what was given for a FREE one", x.leave(0, 6), NONE);
        P.due("what was not", x.leave(1, 6), 101);
    }

    private static void givenLaterDoNot() {
        OrphanShelf x = made("p0");
        x.share(0, 0, 10);
        P.due("none yet", x.comes(0), 0);
        x.agree(0, 0);
        P.due("given behind it", x.ask(0, 0, 0, 0), 0);
        P.due("no end", x.leave(0, 6), NONE);
    }

    private static void aHundredAtOnce() {
        OrphanShelf x = made("p0");
        x.share(0, 0, 5);
        for (int i = 0; i < 100; i++) {
            x.ask(0, 0, 0, 0);
        }
        P.due("all end", x.comes(0), 100);
        P.due("the first", x.leave(0, 6), 100);
        P.due("the last", x.leave(99, 6), 100);
    }
}
