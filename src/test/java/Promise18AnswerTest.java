/** Promise 18: answer. A LETTER is answered at NOW, once; its OWNER is FOUND from then on. */
public final class Promise18AnswerTest {
    private static final Checks P = new Checks("promise 18, answer");

    public static void main(String[] args) {
        foundFromThenOn();
        noSuchOne();
        once();
        onTheFirstAndTheLastDay();
        P.end();
    }

    /** PERSONS 0 to 2 of WORK 0; LETTERS 0 and 1 went out to 0, 2 to PERSON 1, on DAY 5; DAY 10. */
    private static void shelf(OrphanShelf x) {
        Shelves.persons(x, 3);
        Shelves.works(x, 1);
        for (int o = 0; o < 3; o++) {
            x.share(0, o, 5);
        }
        x.now(10);
        x.letter(0, 5);
        x.letter(0, 5);
        x.letter(1, 5);
        Shelves.law(x, 0, "l5");
    }

    private static void foundFromThenOn() {
        OrphanShelf x = Checks.made(Promise18AnswerTest::shelf);
        x.now(12);
        P.due("answered", x.answer(0), true);
        P.due("found today", x.found(0, 12, 12), 1);
        P.due("not the DAY ahead", x.found(0, 11, 12), 0);
        P.due("not KNOWN the DAY ahead", x.found(0, 12, 11), 0);
        P.due("found on the last DAY", x.found(0, 99999, 99999), 1);
        P.due("nobody else", x.found(1, 12, 12), 0);
        P.due("the one ahead of it waits for nothing", x.why(0, 0, 12, 12, 2), 2);
    }

    private static void noSuchOne() {
        for (int k : new int[] {-1, 3, 199, 200, Integer.MIN_VALUE, Integer.MAX_VALUE}) {
            P.isFalse("LETTER " + k, Promise18AnswerTest::shelf, x -> x.answer(k));
        }
        P.isFalse("no LETTERS", x -> Shelves.persons(x, 1), x -> x.answer(0));
        OrphanShelf x = Checks.made(Promise18AnswerTest::shelf);
        P.due("no LETTER 3 yet", x.answer(3), false);
        P.due("the first", x.answer(0), true);
        P.due("the last", x.answer(2), true);
        x.letter(2, 10);
        P.due("the new one has no answer yet", x.found(2, 10, 10), 0);
        P.due("LETTER 3", x.answer(3), true);
        P.due("it has now", x.found(2, 10, 10), 1);
    }

    private static void once() {
        Checks.Making answered = x -> {
            shelf(x);
            x.answer(0);
        };
        P.isFalse("again today", answered, x -> x.answer(0));
        P.isFalse("again later", x -> {
            answered.on(x);
            x.now(20);
        }, x -> x.answer(0));
        OrphanShelf x = Checks.made(answered);
        x.now(20);
        P.due("again", x.answer(0), false);
        P.due("found since the first answer", x.found(0, 10, 10), 1);
        P.due("the other LETTER to that one", x.answer(1), true);
        P.due("found since the first answer still", x.found(0, 10, 20), 1);
    }

    private static void onTheFirstAndTheLastDay() {
        OrphanShelf x = new OrphanShelf();
        Shelves.persons(x, 2);
        x.letter(0, 0);
        x.letter(1, 0);
        P.due("on DAY 0", x.answer(0), true);
        P.due("again", x.answer(0), false);
        P.due("found on DAY 0", x.found(0, 0, 0), 1);
        x.now(99999);
        P.due("on the last DAY", x.answer(1), true);
        P.due("found on the last DAY", x.found(1, 99999, 99999), 1);
        P.due("not the DAY ahead", x.found(1, 99998, 99999), 0);
    }
}
