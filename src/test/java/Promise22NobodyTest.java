/** Promise 22: nobody. Whether none of who HOLD a WORK's SHARES on a DAY is FOUND by that DAY, as KNOWN on t. */
public final class Promise22NobodyTest {
    private static final Checks P = new Checks("promise 22, nobody");
    private static final int NONE = OrphanShelf.NONE;
    private static final int[] FAR = {Integer.MIN_VALUE, Integer.MAX_VALUE};

    public static void main(String[] args) {
        withoutShares();
        oneOfThem();
        whoHoldsThem();
        notWhatItLiesIn();
        noSuchOnes();
        P.end();
    }

    private static void withoutShares() {
        OrphanShelf x = new OrphanShelf();
        Shelves.works(x, 1);
        P.due("no SHARES", x.nobody(0, 0, 0), 1);
        P.due("no SHARES on the last DAY", x.nobody(0, 99999, 99999), 1);
    }

    private static void oneOfThem() {
        for (int i = 0; i < 4; i++) {
            OrphanShelf x = new OrphanShelf();
            Shelves.persons(x, 4);
            Shelves.works(x, 1);
            for (int o = 0; o < 4; o++) {
                x.share(0, o, 10);
            }
            P.due("none is found", x.nobody(0, 0, 0), 1);
            x.now(9);
            x.look(0, 0, 5, i);
            P.due("SHARE " + i + "'s is", x.nobody(0, 5, 9), 0);
            P.due("not the DAY ahead", x.nobody(0, 4, 9), 1);
            P.due("not KNOWN yet", x.nobody(0, 5, 8), 1);
            P.due("on the last DAY", x.nobody(0, 99999, 99999), 0);
        }
    }

    private static void whoHoldsThem() {
        OrphanShelf x = new OrphanShelf();
        Shelves.firms(x, 2);
        Shelves.works(x, 1);
        x.share(0, 0, 10);
        x.now(9);
        x.look(0, 0, 5, 0);
        x.now(12);
        x.merge(0, 1, 7);
        P.due("who holds it is found", x.nobody(0, 6, 12), 0);
        P.due("who holds it then is not", x.nobody(0, 7, 12), 1);
        P.due("the part is not KNOWN yet", x.nobody(0, 7, 11), 0);
        x.comes(1);
        P.due("that one came", x.nobody(0, 12, 12), 0);
        P.due("not the DAY ahead", x.nobody(0, 11, 12), 1);
    }

    private static void notWhatItLiesIn() {
        OrphanShelf x = new OrphanShelf();
        Shelves.persons(x, 2);
        x.work(0, 0, 0, 0, 0, NONE);
        x.work(0, 0, 0, 0, 0, 0);
        x.share(0, 0, 10);
        x.share(1, 1, 10);
        x.comes(0);
        P.due("of the outer one", x.nobody(0, 0, 0), 0);
        P.due("of the inner one", x.nobody(1, 0, 0), 1);
    }

    private static void shelf(OrphanShelf x) {
        Shelves.persons(x, 1);
        Shelves.works(x, 1);
        x.share(0, 0, 5);
    }

    private static void noSuchOnes() {
        for (int w : new int[] {-1, 1, 79, 80, FAR[0], FAR[1]}) {
            P.isNone("WORK " + w, Promise22NobodyTest::shelf, x -> x.nobody(w, 0, 0));
        }
        for (int day : new int[] {-1, 100000, FAR[0], FAR[1]}) {
            P.isNone("DAY " + day, Promise22NobodyTest::shelf, x -> x.nobody(0, day, 0));
            P.isNone("as KNOWN on " + day, Promise22NobodyTest::shelf, x -> x.nobody(0, 0, day));
        }
    }
}
