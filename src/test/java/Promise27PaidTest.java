/** Promise 27: paid. All earnings times w times the hundredths that one HOLDS today, through 10000, rounded down. */
public final class Promise27PaidTest {
    private static final Checks P = new Checks("promise 27, paid");
    private static final int NONE = OrphanShelf.NONE;
    private static final int[] FAR = {Integer.MIN_VALUE, Integer.MAX_VALUE};

    public static void main(String[] args) {
        roundedDown();
        noSuchOnes();
        itDidNotCome();
        free();
        nothingToPay();
        allSharesThatOneHoldsToday();
        partsThatAreToldToday();
        asItWasKnownThen();
        onTheDayOnWhichItWasGiven();
        theMost();
        P.end();
    }

    /** PERSONS 0 and 1, FIRMS 2 and 3, a WORK, DAY 100. */
    private static void build(OrphanShelf x, String law) {
        Shelves.persons(x, 2);
        Shelves.firms(x, 2);
        Shelves.works(x, 1);
        x.now(100);
        Shelves.law(x, 0, law);
    }

    private static OrphanShelf made(String law) {
        return Checks.made(x -> build(x, law));
    }

    /** All that is earned by a LEAVE that was given today, and PERSON 0 comes, who has so many hundredths. */
    private static OrphanShelf earned(String law, int hundredths, int n, int pence) {
        OrphanShelf x = made(law);
        x.share(0, 0, hundredths);
        x.ask(0, 0, 0, 0);
        x.uses(0, 100, n, pence);
        x.comes(0);
        return x;
    }

    private static void roundedDown() {
        int[][] rows = {{1, 100, 99, 0}, {1, 100, 100, 1}, {101, 100, 99, 99}, {9999, 1, 1, 0}, {10000, 1, 1, 1},
            {19999, 1, 1, 1}, {20000, 1, 1, 2}, {101, 33, 50, 16}, {3, 50, 67, 1}};
        for (int[] row : rows) {
            OrphanShelf x = earned("p0;w" + row[1], row[2], row[0], 1);
            P.due(row[0] + " times " + row[1] + " times " + row[2], x.paid(0, 0), row[3]);
        }
        OrphanShelf x = made("p0;w50");
        x.share(0, 0, 50);
        x.ask(0, 0, 0, 0);
        x.uses(0, 100, 3, 1);
        x.uses(0, 100, 1, 1);
        x.comes(0);
        P.due("rounded once, of all earnings", x.paid(0, 0), 1);
    }

    private static void given(OrphanShelf x) {
        build(x, "p0;w50");
        x.share(0, 0, 50);
        x.share(0, 1, 30);
        x.ask(0, 0, 0, 0);
        x.uses(0, 100, 100, 10);
        x.comes(0);
    }

    private static void noSuchOnes() {
        for (int o : new int[] {-1, 4, 39, 40, FAR[0], FAR[1]}) {
            P.isNone("OWNER " + o, Promise27PaidTest::given, x -> x.paid(o, 0));
        }
        for (int k : new int[] {-1, 1, 99, 100, FAR[0], FAR[1]}) {
            P.isNone("LEAVE " + k, Promise27PaidTest::given, x -> x.paid(0, k));
        }
        P.due("such ones", Checks.made(Promise27PaidTest::given).paid(0, 0), 250);
    }

    private static void itDidNotCome() {
        P.isNone("it did not come", Promise27PaidTest::given, x -> x.paid(1, 0));
        OrphanShelf x = Checks.made(Promise27PaidTest::given);
        x.letter(1, 100);
        x.answer(0);
        x.look(0, 0, 100, 1);
        P.due("it is found, but did not come", x.paid(1, 0), NONE);
        x.comes(1);
        P.due("it came", x.paid(1, 0), 150);
    }

    private static void free() {
        Checks.Making freely = x -> {
            build(x, "u0;w50");
            x.share(0, 0, 50);
            x.ask(0, 0, 0, 0);
            x.uses(0, 100, 100, 10);
            x.comes(0);
        };
        P.isNone("a LEAVE for a FREE one", freely, x -> x.paid(0, 0));
    }

    private static void nothingToPay() {
        P.due("no w", earned("p0", 50, 100, 10).paid(0, 0), 0);
        P.due("w is 0", earned("p0;w0", 50, 100, 10).paid(0, 0), 0);
        P.due("no earnings", earned("p0;w50", 50, 100, 0).paid(0, 0), 0);
        OrphanShelf x = Checks.made(Promise27PaidTest::given);
        x.comes(2);
        P.due("holds no SHARE", x.paid(2, 0), 0);
        OrphanShelf y = made("p0;w50");
        y.share(0, 0, 50);
        y.ask(0, 0, 0, 0);
        y.comes(0);
        P.due("no USES", y.paid(0, 0), 0);
    }

    /** FIRMS 2 and 3, with 20 and 30 hundredths, came; 100 pence were earned. */
    private static OrphanShelf twoFirmsCame() {
        OrphanShelf x = made("p0;w100");
        x.share(0, 2, 20);
        x.share(0, 3, 30);
        x.ask(0, 0, 0, 0);
        x.uses(0, 100, 100, 1);
        x.comes(2);
        x.comes(3);
        return x;
    }

    private static void allSharesThatOneHoldsToday() {
        OrphanShelf x = twoFirmsCame();
        P.due("its own", x.paid(2, 0), 20);
        x.merge(2, 3, 110);
        x.now(109);
        P.due("the DAY ahead, its own", x.paid(3, 0), 30);
        P.due("the part's own", x.paid(2, 0), 20);
        x.now(110);
        P.due("that DAY, both", x.paid(3, 0), 50);
        P.due("the part's no more", x.paid(2, 0), 0);
    }

    private static void partsThatAreToldToday() {
        OrphanShelf x = twoFirmsCame();
        x.now(110);
        P.due("not told yet", x.paid(3, 0), 30);
        x.merge(2, 3, 110);
        P.due("told today, both", x.paid(3, 0), 50);
        P.due("told today, the part's no more", x.paid(2, 0), 0);
    }

    private static void asItWasKnownThen() {
        OrphanShelf x = made("p0;w10(f=0);w40(f=1)");
        x.share(0, 0, 100);
        x.ask(0, 0, 0, 0);
        x.uses(0, 100, 100, 1);
        x.now(101);
        x.look(0, 0, 90, 0);
        x.comes(0);
        P.due("what was told a DAY later", x.paid(0, 0), 10);
        OrphanShelf y = made("p0;w10(f=0);w40(f=1)");
        y.share(0, 0, 100);
        y.ask(0, 0, 0, 0);
        y.uses(0, 100, 100, 1);
        y.look(0, 0, 90, 0);
        y.comes(0);
        P.due("what was told on that DAY", y.paid(0, 0), 40);
    }

    private static void onTheDayOnWhichItWasGiven() {
        OrphanShelf x = made("p0;w10");
        x.share(0, 0, 100);
        x.ask(0, 0, 0, 0);
        x.now(105);
        x.uses(0, 105, 100, 1);
        x.comes(0);
        Shelves.law(x, 0, 101, 99999, "w88");
        P.due("a LAW from the DAY behind it", x.paid(0, 0), 10);
        Shelves.law(x, 0, 0, 99, "w99");
        P.due("a LAW to the DAY ahead of it", x.paid(0, 0), 10);
        Shelves.law(x, 1, "w55");
        P.due("another LAND's", x.paid(0, 0), 10);
        Shelves.law(x, 0, 100, 100, "w77");
        P.due("LAWS are as they are now", x.paid(0, 0), 77);
    }

    private static void theMost() {
        OrphanShelf x = made("p0;w100");
        x.share(0, 0, 100);
        x.ask(0, 0, 0, 0);
        for (int i = 0; i < 300; i++) {
            x.uses(0, 100, 100000, 100000);
        }
        x.comes(0);
        P.due("300 times the most", x.paid(0, 0), 3000000000000L);
    }
}
