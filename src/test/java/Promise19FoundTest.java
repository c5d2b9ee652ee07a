/** Promise 19: found. Whether an OWNER is FOUND by a DAY as KNOWN on t: by a LOOK, an answer, or coming. */
public final class Promise19FoundTest {
    private static final Checks P = new Checks("promise 19, found");
    private static final int NONE = OrphanShelf.NONE;
    private static final int[] FAR = {Integer.MIN_VALUE, Integer.MAX_VALUE};

    public static void main(String[] args) {
        byALook();
        byTheEarliestLook();
        byAnAnswer();
        byComing();
        itselfAlone();
        noSuchOnes();
        P.end();
    }

    private static void shelf(OrphanShelf x) {
        Shelves.persons(x, 3);
        Shelves.works(x, 2);
        x.share(0, 0, 5);
        x.share(1, 0, 5);
        x.now(50);
    }

    private static void found(OrphanShelf x, int o, int day, int known, int want) {
        P.due("found(" + o + ", " + day + ", " + known + ")", x.found(o, day, known), want);
    }

    private static void byALook() {
        OrphanShelf x = Checks.made(Promise19FoundTest::shelf);
        found(x, 0, 99999, 99999, 0);
        x.look(0, 3, 20, 0);
        found(x, 0, 19, 50, 0);
        found(x, 0, 20, 50, 1);
        found(x, 0, 20, 49, 0);
        found(x, 0, 50, 49, 0);
        found(x, 0, 99999, 50, 1);
        found(x, 0, 99999, 99999, 1);
        found(x, 0, 0, 99999, 0);
    }

    private static void byTheEarliestLook() {
        OrphanShelf x = Checks.made(Promise19FoundTest::shelf);
        x.look(0, 3, 20, 0);
        x.now(60);
        x.look(1, 4, 10, 0);
        found(x, 0, 9, 60, 0);
        found(x, 0, 10, 60, 1);
        found(x, 0, 10, 59, 0);
        found(x, 0, 20, 59, 1);
        x.look(0, 3, 5, NONE);
        found(x, 0, 5, 60, 0);
    }

    private static void byAnAnswer() {
        OrphanShelf x = Checks.made(Promise19FoundTest::shelf);
        x.letter(1, 5);
        found(x, 1, 50, 50, 0);
        x.now(60);
        x.answer(0);
        found(x, 1, 59, 60, 0);
        found(x, 1, 60, 60, 1);
        found(x, 1, 60, 59, 0);
        found(x, 1, 99999, 59, 0);
        found(x, 1, 99999, 99999, 1);
    }

    private static void byComing() {
        OrphanShelf x = Checks.made(Promise19FoundTest::shelf);
        x.now(70);
        P.due("comes", x.comes(2), 0);
        found(x, 2, 69, 70, 0);
        found(x, 2, 70, 70, 1);
        found(x, 2, 70, 69, 0);
        found(x, 2, 99999, 99999, 1);
        OrphanShelf y = new OrphanShelf();
        Shelves.persons(y, 1);
        found(y, 0, 0, 0, 0);
        y.comes(0);
        found(y, 0, 0, 0, 1);
    }

    /** A FIRM is found by itself: not by its parts, nor by what it is part of. */
    private static void itselfAlone() {
        OrphanShelf x = new OrphanShelf();
        Shelves.firms(x, 3);
        x.merge(0, 1, 0);
        x.merge(1, 2, 0);
        x.comes(1);
        found(x, 0, 0, 0, 0);
        found(x, 1, 0, 0, 1);
        found(x, 2, 0, 0, 0);
    }

    private static void told(OrphanShelf x) {
        shelf(x);
        x.look(0, 3, 20, 0);
        x.comes(1);
    }

    private static void noSuchOnes() {
        for (int o : new int[] {-1, 3, 39, 40, FAR[0], FAR[1]}) {
            P.isNone("OWNER " + o, Promise19FoundTest::told, x -> x.found(o, 50, 50));
        }
        for (int day : new int[] {-1, 100000, FAR[0], FAR[1]}) {
            P.isNone("DAY " + day, Promise19FoundTest::told, x -> x.found(0, day, 50));
            P.isNone("as KNOWN on " + day, Promise19FoundTest::told, x -> x.found(0, 50, day));
        }
    }
}
