/** Promise 24: ask. LEAVE is given if the WORK is FREE surely, or if a p lets it, the search is ENOUGH, all agreed. */
public final class Promise24AskTest {
    private static final Checks P = new Checks("promise 24, ask");
    private static final int NONE = OrphanShelf.NONE;
    private static final int[] FAR = {Integer.MIN_VALUE, Integer.MAX_VALUE};

    public static void main(String[] args) {
        numbers();
        noSuchOnes();
        noUseIsLet();
        everyUse();
        theSearchIsNotEnough();
        oneHasNotAgreed();
        whoHoldsAShareToday();
        theFirstOfThese();
        freeSurely();
        asKnownToday();
        freeByWhatIsToldToday();
        feesAndEnds();
        feesAndEndsOfToday();
        aHundred();
        P.end();
    }

    /** PERSONS 0 and 1, FIRMS 2 and 3, a WORK that came out from 10 to 20; DAY 100. */
    private static OrphanShelf shelf(String law) {
        OrphanShelf x = new OrphanShelf();
        build(x, law);
        return x;
    }

    private static void build(OrphanShelf x, String law) {
        Shelves.persons(x, 2);
        Shelves.firms(x, 2);
        x.work(0, 0, 10, 20, 0, NONE);
        x.now(100);
        Shelves.law(x, 0, law);
    }

    private static void numbers() {
        OrphanShelf x = shelf("p0");
        P.due("the first", x.ask(0, 0, 0, 0), 0);
        P.due("the same again", x.ask(0, 0, 0, 0), 1);
        P.due("a refused one", x.ask(0, 0, 0, 1), -2);
        P.due("the last LIBRARY", x.ask(9, 0, 0, 0), 2);
        P.due("LEAVES", x.count(6), 3);
    }

    private static void noSuchOnes() {
        Checks.Making given = x -> {
            build(x, "p0;p1;p2;p3");
            x.ask(0, 0, 0, 0);
        };
        for (int library : new int[] {-1, 10, FAR[0], FAR[1]}) {
            P.isNone("LIBRARY " + library, given, x -> x.ask(library, 0, 0, 0));
        }
        for (int w : new int[] {-1, 1, 79, 80, FAR[0], FAR[1]}) {
            P.isNone("WORK " + w, given, x -> x.ask(0, w, 0, 0));
        }
        for (int land : new int[] {-1, 4, FAR[0], FAR[1]}) {
            P.isNone("LAND " + land, given, x -> x.ask(0, 0, land, 0));
        }
        for (int use : new int[] {-1, 4, 5, 31, 32, FAR[0], FAR[1]}) {
            P.isNone("use " + use, given, x -> x.ask(0, 0, 0, use));
        }
        OrphanShelf x = Checks.made(given);
        for (int library = 0; library < 10; library++) {
            P.due("LIBRARY " + library, x.ask(library, 0, 0, 3), library + 1);
        }
    }

    private static void noUseIsLet() {
        P.isRefused("no p for that use", x -> build(x, "p2"), x -> x.ask(0, 0, 0, 3), -2);
        P.isRefused("a p that does not hold", x -> build(x, "p2(k=1)"), x -> x.ask(0, 0, 0, 2), -2);
        P.isRefused("no LAW of that LAND", x -> build(x, "p2"), x -> x.ask(0, 0, 3, 2), -2);
        P.isRefused("a LAW that is not in FORCE any more", x -> {
            build(x, "s1");
            Shelves.law(x, 0, 0, 99, "p2");
        }, x -> x.ask(0, 0, 0, 2), -2);
        OrphanShelf x = shelf("f1");
        Shelves.law(x, 0, 0, 100, "p2");
        P.due("its last DAY", x.ask(0, 0, 0, 2), 0);
        x.now(101);
        P.due("the DAY behind it", x.ask(0, 0, 0, 2), -2);
    }

    private static void everyUse() {
        for (int use = 0; use < 4; use++) {
            OrphanShelf x = shelf("p" + use);
            for (int asked = 0; asked < 4; asked++) {
                P.due("use " + asked + " by p" + use, x.ask(0, 0, 0, asked), asked == use ? 0 : -2);
            }
        }
    }

    private static void theSearchIsNotEnough() {
        P.isRefused("a SOURCE lacks", x -> build(x, "p2;s4"), x -> x.ask(0, 0, 0, 2), -3);
        P.isRefused("what it lies in lacks one", x -> {
            build(x, "p0;s4");
            x.work(0, 0, 0, 0, 0, 0);
            x.look(1, 4, 100, NONE);
        }, x -> x.ask(0, 1, 0, 0), -3);
        OrphanShelf x = shelf("p0;s4;a10;l10");
        x.share(0, 0, 10);
        x.look(0, 4, 89, NONE);
        x.letter(0, 91);
        P.due("a LOOK that is too old", x.ask(0, 0, 0, 0), -3);
        x.look(0, 4, 90, NONE);
        P.due("a LETTER that is too young", x.ask(0, 0, 0, 0), -3);
        x.letter(0, 90);
        P.due("both as they must be", x.ask(0, 0, 0, 0), 0);
        x.now(101);
        P.due("the LOOK is too old now", x.ask(0, 0, 0, 0), -3);
    }

    private static void oneHasNotAgreed() {
        Checks.Making found = x -> {
            build(x, "p0");
            x.share(0, 0, 10);
            x.share(0, 1, 10);
            x.look(0, 0, 100, 1);
        };
        P.isRefused("one who is found", found, x -> x.ask(0, 0, 0, 0), -4);
        OrphanShelf x = Checks.made(found);
        x.work(0, 0, 0, 0, 0, 0);
        x.agree(0, 0);
        P.due("the other agreed", x.ask(0, 0, 0, 0), -4);
        x.agree(1, 1);
        P.due("for another WORK", x.ask(0, 0, 0, 0), -4);
        P.due("what lies in it is not that one's", x.ask(0, 1, 0, 0), 0);
        x.agree(1, 0);
        P.due("agreed", x.ask(0, 0, 0, 0), 1);
        OrphanShelf y = shelf("p0");
        y.share(0, 0, 10);
        P.due("nobody is found", y.ask(0, 0, 0, 0), 0);
        y.comes(0);
        P.due("came today", y.ask(0, 0, 0, 0), -4);
    }

    private static void whoHoldsAShareToday() {
        OrphanShelf x = shelf("p0");
        x.share(0, 2, 10);
        x.comes(2);
        P.due("found", x.ask(0, 0, 0, 0), -4);
        x.merge(2, 3, 101);
        P.due("not a part yet", x.ask(0, 0, 0, 0), -4);
        x.now(101);
        P.due("who holds it is not found", x.ask(0, 0, 0, 0), 0);
        x.comes(3);
        P.due("that one is now", x.ask(0, 0, 0, 0), -4);
        x.agree(2, 0);
        P.due("the part agreed", x.ask(0, 0, 0, 0), -4);
        x.agree(3, 0);
        P.due("who holds it agreed", x.ask(0, 0, 0, 0), 1);
    }

    private static void theFirstOfThese() {
        OrphanShelf x = shelf("p2(k=0);p3(k=1);s4");
        x.share(0, 0, 10);
        x.look(0, 5, 100, 0);
        P.due("all three: no p", x.ask(0, 0, 0, 3), -2);
        P.due("two: not ENOUGH", x.ask(0, 0, 0, 2), -3);
        x.look(0, 4, 100, NONE);
        P.due("one: has not agreed", x.ask(0, 0, 0, 2), -4);
        P.due("no p comes ahead of that", x.ask(0, 0, 0, 0), -2);
        x.agree(0, 0);
        P.due("none", x.ask(0, 0, 0, 2), 0);
        P.due("no such LIBRARY comes ahead of all", x.ask(10, 0, 0, 0), NONE);
    }

    private static void freeSurely() {
        OrphanShelf x = shelf("u1;f30;e5;s7");
        x.share(0, 0, 10);
        x.comes(0);
        P.due("surely not", x.ask(0, 0, 0, 0), -2);
        x.now(20 + 365);
        P.due("maybe", x.ask(0, 0, 0, 0), -2);
        x.now(20 + 366);
        P.due("surely: without a p, a search, or consent", x.ask(3, 0, 0, 1), 0);
        P.due("no fee", x.leave(0, 5), 0);
        P.due("no end", x.leave(0, 6), NONE);
        P.due("FREE", x.leave(0, 7), 1);
        for (int use = 0; use < 4; use++) {
            P.due("every use", x.ask(9, 0, 0, use), use + 1);
        }
        P.due("not in another LAND", x.ask(3, 0, 1, 1), -2);
    }

    private static void asKnownToday() {
        OrphanShelf x = shelf("p0;s4(f=0);s5(f=1)");
        x.share(0, 0, 10);
        x.agree(0, 0);
        x.look(0, 4, 100, NONE);
        P.due("nobody is found today", x.ask(0, 0, 0, 0), 0);
        x.look(0, 6, 100, 0);
        P.due("one is now", x.ask(0, 0, 0, 0), -3);
        x.look(0, 5, 0, NONE);
        P.due("looked through for that", x.ask(0, 0, 0, 0), 1);
    }

    private static void freeByWhatIsToldToday() {
        OrphanShelf x = shelf("t0");
        x.share(0, 0, 10);
        P.due("lives still", x.ask(0, 0, 0, 0), -2);
        x.died(0, 98, 99);
        P.due("a death that is told today", x.ask(0, 0, 0, 0), 0);
        P.due("FREE", x.leave(0, 7), 1);
        x.died(0, 98, 100);
        P.due("told anew today", x.ask(0, 0, 0, 0), -2);
        OrphanShelf y = shelf("p0;u0(f=1)");
        y.share(0, 0, 10);
        y.ask(0, 0, 0, 0);
        P.due("nobody is found", y.leave(0, 7), 0);
        y.comes(0);
        P.due("one who came today", y.ask(0, 0, 0, 0), 1);
        P.due("FREE by that", y.leave(1, 7), 1);
    }

    private static void feesAndEnds() {
        OrphanShelf x = shelf("p0;f999999;e999999");
        x.ask(0, 0, 0, 0);
        P.due("the greatest fee", x.leave(0, 5), 999999);
        P.due("the longest", x.leave(0, 6), 1000099);
        Shelves.law(x, 0, "f0;e0");
        x.ask(0, 0, 0, 0);
        P.due("no fee", x.leave(1, 5), 0);
        P.due("it ends at once", x.leave(1, 6), 100);
        x.work(1, 0, 0, 0, 0, 0);
        Shelves.law(x, 0, "f3(k=1);e4(k=1)");
        x.ask(0, 1, 0, 0);
        P.due("the fee for that WORK, not for what it lies in", x.leave(2, 5), 3);
        P.due("its end", x.leave(2, 6), 104);
        OrphanShelf y = shelf("p0");
        y.ask(0, 0, 0, 0);
        P.due("without a number: no fee", y.leave(0, 5), 0);
        P.due("without a number: no end", y.leave(0, 6), NONE);
    }

    private static void feesAndEndsOfToday() {
        OrphanShelf x = shelf("p0;f5(f=0);f9(f=1);e2(f=0);e3(f=1)");
        x.share(0, 0, 10);
        x.ask(0, 0, 0, 0);
        P.due("nobody is found: the fee", x.leave(0, 5), 5);
        P.due("nobody is found: the end", x.leave(0, 6), 102);
        x.agree(0, 0);
        x.look(0, 0, 100, 0);
        x.ask(0, 0, 0, 0);
        P.due("one who is found today: the fee", x.leave(1, 5), 9);
        P.due("one who is found today: the end", x.leave(1, 6), 103);
        Shelves.law(x, 0, 100, 100, "f20;e30");
        x.ask(0, 0, 0, 0);
        P.due("a LAW of today alone: the fee", x.leave(2, 5), 20);
        P.due("a LAW of today alone: the end", x.leave(2, 6), 130);
        x.now(101);
        x.ask(0, 0, 0, 0);
        P.due("the DAY behind: the fee", x.leave(3, 5), 9);
        P.due("the DAY behind: the end", x.leave(3, 6), 104);
        Shelves.law(x, 0, 0, 100, "f40;e50");
        Shelves.law(x, 0, 102, 99999, "f60;e70");
        x.ask(0, 0, 0, 0);
        P.due("LAWS of the DAYS around: the fee", x.leave(4, 5), 9);
        P.due("LAWS of the DAYS around: the end", x.leave(4, 6), 104);
    }

    private static void many(OrphanShelf x, int n) {
        build(x, "p0");
        x.work(0, 0, 99999, 99999, 0, NONE);
        for (int i = 0; i < n; i++) {
            x.ask(i % 10, i % 2, 0, 0);
        }
    }

    private static void aHundred() {
        OrphanShelf x = shelf("p0");
        for (int i = 0; i < 100; i++) {
            P.due("LEAVE " + i, x.ask(i % 10, 0, 0, 0), i);
        }
        P.due("a 101st", x.ask(0, 0, 0, 0), NONE);
        P.due("LEAVES", x.count(6), 100);
        P.due("the last of them", x.leave(99, 0), 9);
        P.due("none behind it", x.leave(100, 0), NONE);
        P.isNone("a 101st is refused", y -> many(y, 100), y -> y.ask(0, 0, 0, 0));
        OrphanShelf refusals = Checks.made(y -> many(y, 99));
        for (int i = 0; i < 5; i++) {
            refusals.ask(0, 0, 0, 1);
        }
        P.due("refused ones are not counted", refusals.ask(0, 0, 0, 0), 99);
    }
}
