/** Promise 3: owner. OWNERS 0 to 39: a PERSON or a FIRM, of a LAND (0 to 3). */
public final class Promise03OwnerTest {
    private static final Checks P = new Checks("promise 3, owner");
    private static final int NONE = OrphanShelf.NONE;

    public static void main(String[] args) {
        everyLand();
        noSuchLand();
        personsAndFirms();
        forty();
        P.end();
    }

    private static void everyLand() {
        OrphanShelf x = new OrphanShelf();
        for (int land = 0; land < 4; land++) {
            P.due("a PERSON of LAND " + land, x.owner(false, land), 2 * land);
            P.due("a FIRM of LAND " + land, x.owner(true, land), 2 * land + 1);
        }
        P.due("OWNERS", x.count(1), 8);
    }

    private static void noSuchLand() {
        for (int land : new int[] {-1, 4, Integer.MIN_VALUE, Integer.MAX_VALUE}) {
            P.isNone("a PERSON of LAND " + land, x -> Shelves.firms(x, 2), x -> x.owner(false, land));
            P.isNone("a FIRM of LAND " + land, x -> Shelves.persons(x, 2), x -> x.owner(true, land));
        }
        OrphanShelf x = new OrphanShelf();
        x.owner(true, 4);
        x.owner(true, -1);
        P.due("the numbers go on where they were", x.owner(false, 3), 0);
    }

    private static void personsAndFirms() {
        OrphanShelf x = new OrphanShelf();
        x.owner(false, 0);
        x.owner(true, 0);
        x.owner(true, 0);
        P.due("a PERSON dies", x.died(0, 0, 0), true);
        P.due("a FIRM does not", x.died(1, 0, 0), false);
        P.due("a FIRM is part of another", x.merge(1, 2, 0), true);
        P.due("a PERSON is not", x.merge(0, 2, 0), false);
    }

    private static void some(OrphanShelf x, int n) {
        for (int o = 0; o < n; o++) {
            x.owner(o % 3 == 1, o % 4);
        }
    }

    private static void forty() {
        OrphanShelf x = new OrphanShelf();
        for (int o = 0; o < 40; o++) {
            P.due("OWNER " + o, x.owner(o % 3 == 1, o % 4), o);
        }
        P.due("a 41st", x.owner(false, 0), NONE);
        P.due("OWNERS", x.count(1), 40);
        P.due("the last one is there", x.found(39, 0, 0), 0);
        P.due("no more", x.found(40, 0, 0), NONE);
        P.isNone("a 41st, a PERSON", y -> some(y, 40), y -> y.owner(false, 0));
        P.isNone("a 41st, a FIRM", y -> some(y, 40), y -> y.owner(true, 3));
    }
}
