/** Promise 34: shown. How many WORKS there are for which LEAVE for some use would be given in a LAND today. */
public final class Promise34ShownTest {
    private static final Checks P = new Checks("promise 34, shown");
    private static final int NONE = OrphanShelf.NONE;

    public static void main(String[] args) {
        forSomeUse();
        freeSurely();
        enoughAndAgreed();
        today();
        toldToday();
        noWorks();
        allWorks();
        noSuchLand();
        P.end();
    }

    private static void forSomeUse() {
        for (int use = 0; use < 4; use++) {
            OrphanShelf x = new OrphanShelf();
            x.work(0, 0, 0, 0, 0, NONE);
            x.work(1, 0, 0, 0, 0, NONE);
            P.due("no LAW", x.shown(0), 0);
            Shelves.law(x, 0, "p" + use + "(k=1)");
            P.due("use " + use + " of one of two", x.shown(0), 1);
            P.due("another LAND", x.shown(1), 0);
            P.due("nothing was given", x.count(6), 0);
        }
    }

    private static void freeSurely() {
        OrphanShelf x = new OrphanShelf();
        x.work(0, 0, 10, 20, 0, NONE);
        Shelves.law(x, 3, "u0");
        x.now(10);
        P.due("surely not", x.shown(3), 0);
        x.now(11);
        P.due("maybe", x.shown(3), 0);
        x.now(20);
        P.due("maybe still", x.shown(3), 0);
        x.now(21);
        P.due("surely", x.shown(3), 1);
    }

    private static void enoughAndAgreed() {
        OrphanShelf x = new OrphanShelf();
        Shelves.persons(x, 1);
        for (int k = 0; k < 6; k++) {
            x.work(k, 0, 0, 0, 0, NONE);
        }
        x.now(10);
        Shelves.law(x, 0, "u0(k=0);p0(k=1);p3(k=2);p1(k=3);s4(k=3);p2(k=4)");
        P.due("a FREE one, three with uses, one that lacks a LOOK", x.shown(0), 4);
        x.look(3, 4, 0, NONE);
        P.due("it lacks none", x.shown(0), 5);
        x.share(1, 0, 5);
        x.look(1, 0, 0, 0);
        P.due("one who is found has not agreed", x.shown(0), 4);
        x.agree(0, 1);
        P.due("agreed", x.shown(0), 5);
    }

    private static void today() {
        OrphanShelf x = new OrphanShelf();
        Shelves.works(x, 1);
        Shelves.law(x, 0, 10, 20, "p0");
        int[] days = {0, 9, 10, 20, 21};
        int[] shown = {0, 0, 1, 1, 0};
        for (int i = 0; i < days.length; i++) {
            x.now(days[i]);
            P.due("on DAY " + days[i], x.shown(0), shown[i]);
        }
    }

    private static void toldToday() {
        OrphanShelf x = new OrphanShelf();
        Shelves.persons(x, 2);
        Shelves.works(x, 2);
        x.share(0, 0, 10);
        x.share(1, 1, 10);
        Shelves.law(x, 0, "t0;p0(k=0);s4(f=0)");
        x.now(10);
        P.due("both live, nothing is looked through", x.shown(0), 0);
        x.died(0, 9, 9);
        P.due("one death that is told today", x.shown(0), 1);
        x.agree(1, 1);
        x.comes(1);
        P.due("one who came today and agreed", x.shown(0), 2);
    }

    private static void noWorks() {
        OrphanShelf x = new OrphanShelf();
        Shelves.law(x, 0, "p0");
        P.due("no WORKS", x.shown(0), 0);
        Shelves.works(x, 1);
        P.due("one", x.shown(0), 1);
    }

    private static void allWorks() {
        OrphanShelf x = new OrphanShelf();
        Shelves.works(x, 80);
        Shelves.law(x, 2, "p3");
        P.due("all eighty", x.shown(2), 80);
        x.look(79, 0, 0, NONE);
        Shelves.law(x, 2, "s0");
        P.due("the last alone", x.shown(2), 1);
    }

    private static void noSuchLand() {
        for (int land : new int[] {-1, 4, Integer.MIN_VALUE, Integer.MAX_VALUE}) {
            P.isNone("LAND " + land, x -> {
                Shelves.works(x, 1);
                Shelves.law(x, 0, "p0");
            }, x -> x.shown(land));
        }
    }
}
