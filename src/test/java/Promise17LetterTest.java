/** Promise 17: letter. A LETTER to an OWNER went out on a DAY not behind NOW; 200 at most. */
public final class Promise17LetterTest {
    private static final Checks P = new Checks("promise 17, letter");
    private static final int NONE = OrphanShelf.NONE;
    private static final int[] FAR = {Integer.MIN_VALUE, Integer.MAX_VALUE};

    public static void main(String[] args) {
        numbers();
        noSuchOnes();
        noSuchDay();
        behindNow();
        twoHundred();
        P.end();
    }

    /** PERSON 0 and FIRM 1, a WORK of both; letters must have waited a DAY. DAY 10. */
    private static void shelf(OrphanShelf x) {
        Shelves.persons(x, 1);
        Shelves.firms(x, 1);
        Shelves.works(x, 1);
        x.share(0, 0, 5);
        x.share(0, 1, 5);
        x.now(10);
        Shelves.law(x, 0, "l1");
    }

    private static void numbers() {
        OrphanShelf x = Checks.made(Promise17LetterTest::shelf);
        P.due("to a PERSON", x.letter(0, 9), 0);
        P.due("the FIRM lacks one", x.why(0, 0, 10, 10, 2), 1);
        P.due("a refused one", x.letter(2, 9), NONE);
        P.due("to a FIRM", x.letter(1, 9), 1);
        P.due("enough", x.enough(0, 0, 10, 10), 1);
        P.due("the same again", x.letter(1, 9), 2);
        P.due("LETTERS", x.count(5), 3);
        P.due("nobody is found by that", x.found(0, 10, 10), 0);
    }

    private static void noSuchOnes() {
        for (int o : new int[] {-1, 2, 39, 40, FAR[0], FAR[1]}) {
            P.isNone("OWNER " + o, Promise17LetterTest::shelf, x -> x.letter(o, 5));
        }
    }

    private static void noSuchDay() {
        for (int day : new int[] {-1, 100000, FAR[0], FAR[1]}) {
            P.isNone("DAY " + day, Promise17LetterTest::shelf, x -> x.letter(0, day));
        }
        P.isNone("DAY 100000 on the last DAY", x -> {
            shelf(x);
            x.now(99999);
        }, x -> x.letter(0, 100000));
    }

    private static void behindNow() {
        OrphanShelf x = Checks.made(Promise17LetterTest::shelf);
        P.due("DAY 0", x.letter(0, 0), 0);
        P.due("NOW", x.letter(0, 10), 1);
        P.due("the DAY behind NOW", x.letter(0, 11), NONE);
        P.isNone("the DAY behind NOW is refused", Promise17LetterTest::shelf, y -> y.letter(0, 11));
        x.now(11);
        P.due("that DAY has come", x.letter(0, 11), 2);
        x.now(99999);
        P.due("the last DAY", x.letter(0, 99999), 3);
    }

    private static void many(OrphanShelf x, int n) {
        shelf(x);
        for (int i = 0; i < n; i++) {
            x.letter(1, 9);
        }
    }

    private static void twoHundred() {
        OrphanShelf x = new OrphanShelf();
        shelf(x);
        for (int i = 0; i < 199; i++) {
            P.due("LETTER " + i, x.letter(1, 9), i);
        }
        P.due("the PERSON lacks one", x.why(0, 0, 10, 10, 2), 0);
        P.due("the 200th", x.letter(0, 9), 199);
        P.due("enough", x.enough(0, 0, 10, 10), 1);
        P.due("a 201st", x.letter(0, 0), NONE);
        P.due("LETTERS", x.count(5), 200);
        P.due("the last one is answered", x.answer(199), true);
        P.due("there is no 201st", x.answer(200), false);
        P.isNone("a 201st to one who had none", y -> many(y, 200), y -> y.letter(0, 9));
        P.isNone("a 201st to the other", y -> many(y, 200), y -> y.letter(1, 0));
    }
}
