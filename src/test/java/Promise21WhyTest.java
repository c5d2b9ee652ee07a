/** Promise 21: why. The first that lacks: the WORK, whether an OWNER or a SOURCE, and which. */
public final class Promise21WhyTest {
    private static final Checks P = new Checks("promise 21, why");
    private static final int NONE = OrphanShelf.NONE;
    private static final int[] FAR = {Integer.MIN_VALUE, Integer.MAX_VALUE};

    public static void main(String[] args) {
        itIs();
        sourcesByNumbers();
        thenOwnersByTheOrderOfShares();
        tooOldOrTooShort();
        ofTheWorkFirst();
        everyWorkByItsOwnConditions();
        asKnown();
        others();
        noSuchOnes();
        P.end();
    }

    private static void why(OrphanShelf x, String at, int w, int day, int known, int... lack) {
        P.due(at + ": enough", x.enough(w, 0, day, known), lack.length == 0 ? 1 : 0);
        for (int what = 0; what < 3; what++) {
            P.due(at + ": why " + what, x.why(w, 0, day, known, what), lack.length == 0 ? NONE : lack[what]);
        }
    }

    private static void itIs() {
        OrphanShelf x = new OrphanShelf();
        Shelves.works(x, 1);
        why(x, "no LAW", 0, 0, 0);
        Shelves.law(x, 0, "a5;s3(k=1)");
        why(x, "nothing that holds", 0, 0, 0);
        Shelves.law(x, 0, "s3");
        x.look(0, 3, 0, NONE);
        why(x, "all looked through", 0, 0, 0);
    }

    private static void sourcesByNumbers() {
        OrphanShelf x = new OrphanShelf();
        Shelves.works(x, 1);
        Shelves.law(x, 0, "s11;s4;s0");
        why(x, "the lowest", 0, 0, 0, 0, 0, 0);
        x.look(0, 0, 0, NONE);
        why(x, "the next", 0, 0, 0, 0, 0, 4);
        x.look(0, 4, 0, NONE);
        why(x, "the last", 0, 0, 0, 0, 0, 11);
        x.look(0, 11, 0, NONE);
        why(x, "none", 0, 0, 0);
        Shelves.law(x, 0, "s2");
        why(x, "a higher LAW's", 0, 0, 0, 0, 0, 2);
    }

    private static void thenOwnersByTheOrderOfShares() {
        OrphanShelf x = new OrphanShelf();
        Shelves.firms(x, 4);
        Shelves.works(x, 1);
        for (int o : new int[] {2, 0, 3, 1}) {
            x.share(0, o, 10);
        }
        x.now(100);
        Shelves.law(x, 0, "l10;s11");
        why(x, "the SOURCE first", 0, 100, 100, 0, 0, 11);
        x.look(0, 11, 100, NONE);
        why(x, "the first SHARE's", 0, 100, 100, 0, 1, 2);
        x.letter(3, 90);
        why(x, "the first SHARE's still", 0, 100, 100, 0, 1, 2);
        x.letter(2, 90);
        why(x, "the second one's", 0, 100, 100, 0, 1, 0);
        x.comes(0);
        why(x, "the fourth one's", 0, 100, 100, 0, 1, 1);
        x.merge(1, 2, 0);
        why(x, "who is told for it, not who holds it", 0, 100, 100, 0, 1, 1);
        x.letter(1, 0);
        why(x, "none", 0, 100, 100);
    }

    private static void tooOldOrTooShort() {
        OrphanShelf x = new OrphanShelf();
        Shelves.persons(x, 1);
        Shelves.works(x, 1);
        x.share(0, 0, 5);
        x.now(100);
        Shelves.law(x, 0, "s4;a10;l10");
        x.look(0, 4, 89, NONE);
        x.letter(0, 90);
        why(x, "a LOOK 11 DAYS ago", 0, 100, 100, 0, 0, 4);
        why(x, "10 DAYS ago, but the LETTER 9", 0, 99, 100, 0, 1, 0);
        x.look(0, 4, 90, NONE);
        why(x, "both 10 DAYS ago", 0, 100, 100);
        why(x, "a LOOK behind the DAY", 0, 88, 100, 0, 0, 4);
    }

    private static void ofTheWorkFirst() {
        OrphanShelf x = new OrphanShelf();
        Shelves.persons(x, 2);
        x.now(20);
        for (int w = 0; w < 8; w++) {
            x.work(0, 0, 0, 0, 0, w - 1);
        }
        x.share(0, 1, 1);
        x.share(7, 0, 1);
        Shelves.law(x, 0, "s2;s1;l5");
        why(x, "its own SOURCE", 7, 20, 20, 7, 0, 1);
        x.look(7, 1, 20, NONE);
        x.look(7, 2, 20, NONE);
        why(x, "its own OWNER, ahead of the next one's SOURCES", 7, 20, 20, 7, 1, 0);
        x.letter(0, 15);
        for (int w = 6; w >= 0; w--) {
            why(x, "of the next one", 7, 20, 20, w, 0, 1);
            x.look(w, 1, 20, NONE);
            why(x, "its next SOURCE", 7, 20, 20, w, 0, 2);
            x.look(w, 2, 20, NONE);
        }
        why(x, "the outermost's OWNER", 7, 20, 20, 0, 1, 1);
        x.letter(1, 15);
        why(x, "none of the eight", 7, 20, 20);
    }

    private static void everyWorkByItsOwnConditions() {
        OrphanShelf x = new OrphanShelf();
        x.work(1, 0, 0, 0, 0, NONE);
        x.work(2, 0, 0, 0, 0, 0);
        Shelves.law(x, 0, "s5(j=1);s6(k=1)");
        why(x, "the inner one's", 1, 0, 0, 1, 0, 5);
        x.look(1, 5, 0, NONE);
        why(x, "the outer one's", 1, 0, 0, 0, 0, 6);
        x.look(1, 6, 0, NONE);
        why(x, "the inner one's LOOK is not for it", 1, 0, 0, 0, 0, 6);
        x.look(0, 6, 0, NONE);
        why(x, "both", 1, 0, 0);
    }

    private static void asKnown() {
        OrphanShelf x = new OrphanShelf();
        Shelves.works(x, 1);
        Shelves.law(x, 0, "s0;s1");
        x.now(50);
        x.look(0, 0, 10, NONE);
        x.now(60);
        x.look(0, 1, 10, NONE);
        why(x, "neither is KNOWN", 0, 10, 49, 0, 0, 0);
        why(x, "one is", 0, 10, 50, 0, 0, 1);
        why(x, "one is still", 0, 10, 59, 0, 0, 1);
        why(x, "both are", 0, 10, 60);
        why(x, "the DAY ahead", 0, 9, 60, 0, 0, 0);
    }

    private static void shelf(OrphanShelf x) {
        Shelves.works(x, 1);
        Shelves.law(x, 0, "s0");
    }

    private static void others() {
        for (int what : new int[] {-1, 3, 4, FAR[0], FAR[1]}) {
            P.isNone("what " + what, Promise21WhyTest::shelf, x -> x.why(0, 0, 0, 0, what));
        }
    }

    private static void noSuchOnes() {
        for (int w : new int[] {-1, 1, 79, 80, FAR[0], FAR[1]}) {
            P.isNone("WORK " + w, Promise21WhyTest::shelf, x -> x.why(w, 0, 0, 0, 0));
        }
        for (int land : new int[] {-1, 4, FAR[0], FAR[1]}) {
            P.isNone("LAND " + land, Promise21WhyTest::shelf, x -> x.why(0, land, 0, 0, 0));
        }
        for (int day : new int[] {-1, 100000, FAR[0], FAR[1]}) {
            P.isNone("DAY " + day, Promise21WhyTest::shelf, x -> x.why(0, 0, day, 0, 0));
            P.isNone("as KNOWN on " + day, Promise21WhyTest::shelf, x -> x.why(0, 0, 0, day, 0));
        }
        P.due("the last DAY", Checks.made(Promise21WhyTest::shelf).why(0, 0, 99999, 99999, 0), 0);
    }
}
