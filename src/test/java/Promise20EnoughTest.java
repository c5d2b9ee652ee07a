/** Promise 20: enough. Whether a search for a WORK is ENOUGH in a LAND on a DAY as KNOWN on t. */
public final class Promise20EnoughTest {
    private static final Checks P = new Checks("promise 20, enough");
    private static final int NONE = OrphanShelf.NONE;
    private static final int[] FAR = {Integer.MIN_VALUE, Integer.MAX_VALUE};

    public static void main(String[] args) {
        nothingIsWanted();
        byTheDay();
        notLongerAgo();
        theLatestSuchLook();
        withoutAnAge();
        asKnown();
        lettersLongEnoughAgo();
        lettersWithAnAnswer();
        lettersToOwnersWhoAreTold();
        whoIsFoundNeedsNone();
        allInWhichItLies();
        noSuchOnes();
        P.end();
    }

    private static void enough(OrphanShelf x, String at, int w, int day, int known, int want) {
        P.due(at, x.enough(w, 0, day, known), want);
    }

    private static void nothingIsWanted() {
        OrphanShelf x = new OrphanShelf();
        Shelves.works(x, 1);
        enough(x, "no LAW", 0, 0, 0, 1);
        Shelves.law(x, 0, "a5;s3(k=1);l0");
        enough(x, "nothing that holds", 0, 0, 0, 1);
        Shelves.law(x, 1, "s3");
        enough(x, "another LAND's", 0, 0, 0, 1);
        P.due("in that LAND", x.enough(0, 1, 0, 0), 0);
        Shelves.law(x, 0, "l5");
        enough(x, "no OWNERS to write to", 0, 0, 0, 1);
    }

    private static void byTheDay() {
        OrphanShelf x = new OrphanShelf();
        Shelves.works(x, 2);
        x.now(1000);
        Shelves.law(x, 0, "s4;s7");
        enough(x, "no LOOK", 0, 100, 1000, 0);
        x.look(1, 4, 50, NONE);
        x.look(1, 7, 50, NONE);
        enough(x, "another WORK's LOOKS", 0, 100, 1000, 0);
        x.look(0, 4, 50, NONE);
        enough(x, "one of two", 0, 100, 1000, 0);
        x.look(0, 7, 101, NONE);
        enough(x, "the DAY ahead of the other", 0, 100, 1000, 0);
        enough(x, "on that DAY", 0, 101, 1000, 1);
        enough(x, "on the last DAY", 0, 99999, 1000, 1);
    }

    private static void notLongerAgo() {
        OrphanShelf x = new OrphanShelf();
        Shelves.works(x, 1);
        x.now(1000);
        Shelves.law(x, 0, "s4;a10");
        x.look(0, 4, 90, NONE);
        enough(x, "the DAY ahead", 0, 89, 1000, 0);
        enough(x, "today", 0, 90, 1000, 1);
        enough(x, "9 DAYS ago", 0, 99, 1000, 1);
        enough(x, "10 DAYS ago", 0, 100, 1000, 1);
        enough(x, "11 DAYS ago", 0, 101, 1000, 0);
        Shelves.law(x, 0, "a1");
        enough(x, "1 DAY ago", 0, 91, 1000, 1);
        enough(x, "2 DAYS ago", 0, 92, 1000, 0);
        Shelves.law(x, 0, "a999999");
        enough(x, "on the last DAY", 0, 99999, 1000, 1);
    }

    private static void theLatestSuchLook() {
        OrphanShelf x = new OrphanShelf();
        Shelves.works(x, 1);
        x.now(1000);
        Shelves.law(x, 0, "s4;a10");
        x.look(0, 4, 120, NONE);
        x.look(0, 4, 100, NONE);
        enough(x, "the earlier one, told later", 0, 110, 1000, 1);
        enough(x, "too old, and the later one is not yet", 0, 111, 1000, 0);
        enough(x, "the later one", 0, 120, 1000, 1);
        enough(x, "as long as it may be", 0, 130, 1000, 1);
        enough(x, "too old", 0, 131, 1000, 0);
    }

    private static void withoutAnAge() {
        OrphanShelf x = new OrphanShelf();
        Shelves.works(x, 1);
        Shelves.law(x, 0, "s4;a10");
        Shelves.law(x, 0, 500, 99999, "a0");
        x.look(0, 4, 0, NONE);
        enough(x, "too old", 0, 499, 1000, 0);
        enough(x, "a is 0: none is too old", 0, 500, 1000, 1);
        enough(x, "on the last DAY", 0, 99999, 1000, 1);
    }

    private static void asKnown() {
        OrphanShelf x = new OrphanShelf();
        Shelves.persons(x, 1);
        Shelves.works(x, 1);
        x.share(0, 0, 5);
        Shelves.law(x, 0, "s0");
        x.now(50);
        x.look(0, 0, 10, NONE);
        enough(x, "KNOWN", 0, 10, 50, 1);
        enough(x, "not KNOWN yet", 0, 10, 49, 0);
        enough(x, "not looked yet", 0, 9, 50, 0);
        Shelves.law(x, 0, "s1(f=1)");
        x.now(60);
        x.look(0, 3, 10, 0);
        enough(x, "a condition that holds, as KNOWN", 0, 10, 60, 0);
        enough(x, "as KNOWN the DAY ahead", 0, 10, 59, 1);
    }

    private static OrphanShelf written(String law) {
        OrphanShelf x = new OrphanShelf();
        Shelves.firms(x, 3);
        Shelves.works(x, 1);
        x.share(0, 1, 10);
        x.now(100);
        Shelves.law(x, 0, law);
        return x;
    }

    private static void lettersLongEnoughAgo() {
        OrphanShelf x = written("l10");
        enough(x, "no LETTER", 0, 100, 100, 0);
        x.letter(1, 91);
        enough(x, "9 DAYS ago", 0, 100, 100, 0);
        x.letter(1, 90);
        enough(x, "10 DAYS ago", 0, 100, 100, 1);
        enough(x, "9 DAYS ago on the DAY ahead", 0, 99, 100, 0);
        enough(x, "11 DAYS ago", 0, 101, 100, 1);
        enough(x, "on the last DAY", 0, 99999, 100, 1);
        enough(x, "not KNOWN yet", 0, 100, 99, 0);
        enough(x, "not out yet", 0, 89, 100, 0);
        OrphanShelf y = written("l1");
        y.letter(1, 100);
        enough(y, "today", 0, 100, 100, 0);
        enough(y, "1 DAY ago", 0, 101, 100, 1);
        OrphanShelf z = written("l0");
        enough(z, "l is 0: no LETTER is wanted", 0, 100, 100, 1);
    }

    private static void lettersWithAnAnswer() {
        OrphanShelf x = written("l10");
        x.letter(1, 85);
        x.now(102);
        x.answer(0);
        enough(x, "no answer by then", 0, 101, 102, 1);
        enough(x, "answered: its OWNER is found", 0, 102, 102, 1);
        enough(x, "the answer is not KNOWN yet", 0, 102, 101, 1);
        OrphanShelf y = written("l10");
        y.letter(1, 95);
        y.now(102);
        y.answer(0);
        enough(y, "found, though not long ago", 0, 102, 102, 1);
        enough(y, "the DAY ahead of the answer", 0, 101, 102, 0);
        enough(y, "the answer is not KNOWN yet, nor long ago", 0, 102, 101, 0);
    }

    private static void lettersToOwnersWhoAreTold() {
        OrphanShelf x = written("l10");
        x.merge(1, 2, 0);
        x.letter(2, 0);
        enough(x, "who holds it had one", 0, 100, 100, 0);
        x.comes(2);
        enough(x, "who holds it is found", 0, 100, 100, 0);
        x.letter(1, 90);
        enough(x, "who is told for it had one", 0, 100, 100, 1);
        x.share(0, 0, 10);
        enough(x, "one of two", 0, 100, 100, 0);
        x.letter(0, 90);
        enough(x, "both", 0, 100, 100, 1);
    }

    private static void whoIsFoundNeedsNone() {
        OrphanShelf x = written("l10");
        x.look(0, 7, 50, 1);
        enough(x, "found by a LOOK", 0, 50, 100, 1);
        enough(x, "the DAY ahead of it", 0, 49, 100, 0);
        enough(x, "not KNOWN yet", 0, 50, 99, 0);
        OrphanShelf y = written("l10");
        y.comes(1);
        enough(y, "came", 0, 100, 100, 1);
        enough(y, "the DAY ahead", 0, 99, 100, 0);
    }

    private static void allInWhichItLies() {
        OrphanShelf x = new OrphanShelf();
        for (int w = 0; w < 8; w++) {
            x.work(0, 0, 0, 0, 0, w - 1);
        }
        Shelves.law(x, 0, "s3");
        for (int w = 7; w > 0; w--) {
            x.look(w, 3, 0, NONE);
            enough(x, "WORK " + w + " is, what it lies in is not", 7, 0, 0, 0);
        }
        x.look(0, 3, 0, NONE);
        enough(x, "all eight", 7, 0, 0, 1);
        OrphanShelf y = new OrphanShelf();
        y.work(1, 0, 0, 0, 0, NONE);
        y.work(2, 0, 0, 0, 0, 0);
        Shelves.law(y, 0, "s5(k=2)");
        enough(y, "what lies in it is not asked", 0, 0, 0, 1);
        enough(y, "the inner one lacks one", 1, 0, 0, 0);
        y.look(0, 5, 0, NONE);
        enough(y, "the outer one's LOOK is not its own", 1, 0, 0, 0);
    }

    private static void shelf(OrphanShelf x) {
        Shelves.works(x, 1);
        Shelves.law(x, 0, "s0");
    }

    private static void noSuchOnes() {
        for (int w : new int[] {-1, 1, 79, 80, FAR[0], FAR[1]}) {
            P.isNone("WORK " + w, Promise20EnoughTest::shelf, x -> x.enough(w, 0, 0, 0));
        }
        for (int land : new int[] {-1, 4, FAR[0], FAR[1]}) {
            P.isNone("LAND " + land, Promise20EnoughTest::shelf, x -> x.enough(0, land, 0, 0));
        }
        for (int day : new int[] {-1, 100000, FAR[0], FAR[1]}) {
            P.isNone("DAY " + day, Promise20EnoughTest::shelf, x -> x.enough(0, 0, day, 0));
            P.isNone("as KNOWN on " + day, Promise20EnoughTest::shelf, x -> x.enough(0, 0, 0, day));
        }
        P.due("DAYS behind NOW", Checks.made(Promise20EnoughTest::shelf).enough(0, 0, 99999, 99999), 0);
        P.due("LAND 3", Checks.made(Promise20EnoughTest::shelf).enough(0, 3, 0, 0), 1);
    }
}
