/** Promise 2: now. NOW is a DAY (0 at first, to 99999), never back. */
public final class Promise02NowTest {
    private static final Checks P = new Checks("promise 2, now");
    private static final int NONE = OrphanShelf.NONE;

    public static void main(String[] args) {
        fromTheFirstDayToTheLast();
        noSuchDay();
        neverBack();
        whatIsTodayThen();
        P.end();
    }

    private static void fromTheFirstDayToTheLast() {
        OrphanShelf x = new OrphanShelf();
        P.due("now(0)", x.now(0), true);
        P.due("now(0) again", x.now(0), true);
        P.due("now(1)", x.now(1), true);
        P.due("NOW", x.count(0), 1);
        P.due("now(99998)", x.now(99998), true);
        P.due("now(99999)", x.now(99999), true);
        P.due("now(99999) again", x.now(99999), true);
        P.due("the last DAY", x.count(0), 99999);
    }

    private static void noSuchDay() {
        for (int day : new int[] {-1, 100000, 100001, Integer.MIN_VALUE, Integer.MAX_VALUE}) {
            P.isFalse("now(" + day + ") at first", x -> { }, x -> x.now(day));
            P.isFalse("now(" + day + ")", Promise02NowTest::onDaySeven, x -> x.now(day));
            P.isFalse("now(" + day + ") on the last DAY", x -> x.now(99999), x -> x.now(day));
        }
    }

    private static void onDaySeven(OrphanShelf x) {
        Shelves.persons(x, 1);
        Shelves.works(x, 1);
        x.share(0, 0, 10);
        x.now(7);
        x.look(0, 0, 7, 0);
    }

    private static void neverBack() {
        P.isFalse("the DAY ahead of NOW", Promise02NowTest::onDaySeven, x -> x.now(6));
        P.isFalse("DAY 0", Promise02NowTest::onDaySeven, x -> x.now(0));
        P.isFalse("the DAY ahead of the last", x -> x.now(99999), x -> x.now(99998));
        OrphanShelf x = Checks.made(Promise02NowTest::onDaySeven);
        P.due("NOW again", x.now(7), true);
        P.due("the DAY behind NOW", x.now(8), true);
        P.due("not back to where it was", x.now(7), false);
        P.due("NOW stays", x.count(0), 8);
    }

    /** A call that was refused has not moved NOW: what is told later is told on the day that NOW is. */
    private static void whatIsTodayThen() {
        OrphanShelf x = Checks.made(Promise02NowTest::onDaySeven);
        x.now(100000);
        x.now(3);
        x.letter(0, 7);
        x.comes(0);
        P.due("a letter on DAY 8 is behind NOW", x.letter(0, 8), NONE);
        P.due("came on DAY 7", x.found(0, 7, 7), 1);
        P.due("not ahead of it", x.found(0, 6, 7), 0);
    }
}
