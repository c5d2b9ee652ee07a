import java.util.function.Supplier;

/** The answers that are due, counted; and calls that are refused, behind which nothing may have changed. */
final class Checks {
    /** Builds a shelf up, with some 400 calls at most: a shelf is used for 512, and Sight needs the rest. */
    interface Making {
        void on(OrphanShelf x);
    }

    interface Asking {
        long on(OrphanShelf x);
    }

    interface Telling {
        boolean on(OrphanShelf x);
    }

    private final String title;
    private int asked;
    private int wrong;

    Checks(String title) {
        this.title = title;
    }

    void due(String call, long got, long want) {
        asked++;
        if (got != want) {
            wrong++;
            System.out.println(title + ": " + call + " answered " + got + ", due is " + want);
        }
    }

    void due(String call, boolean got, boolean want) {
        due(call, got ? 1 : 0, want ? 1 : 0);
    }

    /** A call that is refused with false, and changes nothing. */
    void isFalse(String call, Making making, Telling telling) {
        isRefused(call, making, x -> telling.on(x) ? 1 : 0, 0);
    }

    /** A call that is refused with NONE, and changes nothing. */
    void isNone(String call, Making making, Asking asking) {
        isRefused(call, making, asking, OrphanShelf.NONE);
    }

    /** A call that answers so and changes nothing: all that can be asked later is as if it had not been made. */
    void isRefused(String call, Making making, Asking asking, long want) {
        isLike(call, making, asking, want, making);
    }

    /** A call that answers so, behind which a shelf looks like another one. */
    void isLike(String call, Making making, Asking asking, long want, Making other) {
        due(call, asking.on(made(making)), want);
        String difference = Sight.difference(behind(making, asking), () -> made(other));
        due(call + ": " + difference, difference.isEmpty(), true);
    }

    static OrphanShelf made(Making making) {
        OrphanShelf x = new OrphanShelf();
        making.on(x);
        return x;
    }

    private static Supplier<OrphanShelf> behind(Making making, Asking asking) {
        return () -> {
            OrphanShelf x = made(making);
            asking.on(x);
            return x;
        };
    }

    int wrong() {
        return wrong;
    }

    /** Tells how it went, and ends the test with exit code 1 if an answer was wrong. */
    void end() {
        System.out.println(title + ": " + asked + " answers, " + wrong + " wrong");
        if (wrong != 0) {
            System.exit(1);
        }
    }
}
