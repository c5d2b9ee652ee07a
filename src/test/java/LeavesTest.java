/** Promises 23 to 27, 34 and 35: leave, uses, comings, payments, what is shown. */
public final class LeavesTest {
    private static final Checks CHECKS = new Checks("leaves");
    private static final int NONE = OrphanShelf.NONE;

    public static void main(String[] args) {
        wrongAsking();
        whyNot();
        foundOnesAgree();
        holdersAgree();
        freeOnes();
        details();
        endsByLaw();
        using();
        wrongUses();
        coming();
        comingOfHolders();
        comingTwiceOnOneDay();
        freeOnesDoNotEnd();
        paying();
        payingByHolders();
        payingAsItWasKnown();
        payingGreatSums();
        hundredLeaves();
        threeHundredTellings();
        shown();
        CHECKS.end();
    }

    private static void due(String call, long got, long want) {
        CHECKS.due(call, got, want);
    }

    private static void due(String call, boolean got, boolean want) {
        CHECKS.due(call, got, want);
    }

    /** One WORK of KIND 0, two PERSONS and two FIRMS, on DAY 100. */
    private static OrphanShelf shelf(String law) {
        OrphanShelf x = new OrphanShelf();
        x.owner(false, 0);
        x.owner(false, 0);
        x.owner(true, 0);
        x.owner(true, 0);
        x.work(0, 0, 10, 20, 0, NONE);
        x.now(100);
        Checks.law(x, 0, law);
        return x;
    }

    private static void wrongAsking() {
        OrphanShelf x = shelf("p0");
        due("library -1", x.ask(-1, 0, 0, 0), NONE);
        due("library 10", x.ask(10, 0, 0, 0), NONE);
        due("work -1", x.ask(0, -1, 0, 0), NONE);
        due("work 1", x.ask(0, 1, 0, 0), NONE);
        due("land -1", x.ask(0, 0, -1, 0), NONE);
        due("land 4", x.ask(0, 0, 4, 0), NONE);
        due("use -1", x.ask(0, 0, 0, -1), NONE);
        due("use 4", x.ask(0, 0, 0, 4), NONE);
        due("no leaves", x.count(6), 0);
        due("given", x.ask(9, 0, 0, 0), 0);
        due("given again", x.ask(9, 0, 0, 0), 1);
        due("leaves", x.count(6), 2);
    }

    private static void whyNot() {
        OrphanShelf x = shelf("p2(k=0);p3(k=1);s4");
        x.share(0, 0, 10);
        x.look(0, 5, 100, 0);
        due("no p", x.ask(0, 0, 0, 3), -2);
        due("no law", x.ask(0, 0, 1, 2), -2);
        due("not enough", x.ask(0, 0, 0, 2), -3);
        x.look(0, 4, 100, NONE);
        due("has not agreed", x.ask(0, 0, 0, 2), -4);
        x.agree(0, 0);
        due("given", x.ask(0, 0, 0, 2), 0);
        due("no p still", x.ask(0, 0, 0, 0), -2);
    }

    private static void foundOnesAgree() {
        OrphanShelf x = shelf("p0");
        x.work(0, 0, 0, 0, 0, 0);
        x.share(0, 0, 10);
        x.share(0, 1, 10);
        due("nobody is found", x.ask(0, 0, 0, 0), 0);
        x.look(0, 0, 50, 1);
        due("one is", x.ask(0, 0, 0, 0), -4);
        x.agree(0, 0);
        due("the other agreed", x.ask(0, 0, 0, 0), -4);
        x.agree(1, 1);
        due("for another work", x.ask(0, 0, 0, 0), -4);
        due("what lies in it is not that one's", x.ask(0, 1, 0, 0), 1);
        x.agree(1, 0);
        due("agreed", x.ask(0, 0, 0, 0), 2);
    }

    private static void holdersAgree() {
        OrphanShelf x = shelf("p0");
        x.share(0, 2, 10);
        x.comes(2);
        due("found", x.ask(0, 0, 0, 0), -4);
        x.merge(2, 3, 101);
        due("not a part yet", x.ask(0, 0, 0, 0), -4);
        x.now(101);
        due("who holds it is not found", x.ask(0, 0, 0, 0), 0);
        x.comes(3);
        due("now that one is", x.ask(0, 0, 0, 0), -4);
        x.agree(2, 0);
        due("the one it is part of must", x.ask(0, 0, 0, 0), -4);
        x.agree(3, 0);
        due("agreed", x.ask(0, 0, 0, 0), 1);
    }

    private static void freeOnes() {
        OrphanShelf x = shelf("u1;f30;e5;s7");
        due("not free: no p", x.ask(0, 0, 0, 0), -2);
        x.now(20 + 365);
        due("maybe free", x.ask(0, 0, 0, 0), -2);
        x.now(20 + 366);
        due("surely free", x.ask(3, 0, 0, 1), 0);
        due("no fee", x.leave(0, 5), 0);
        due("no end", x.leave(0, 6), NONE);
        due("free", x.leave(0, 7), 1);
        due("paid: free", x.paid(0, 0), NONE);
        x.comes(0);
        due("paid: free still", x.paid(0, 0), NONE);
    }

    private static void details() {
        OrphanShelf x = shelf("p0;p3;f123;e7");
        x.work(0, 0, 0, 0, 0, NONE);
        due("given", x.ask(8, 1, 0, 3), 0);
        long[] due = {8, 1, 0, 3, 100, 123, 107, 0};
        for (int what = 0; what < due.length; what++) {
            due("leave(0, " + what + ")", x.leave(0, what), due[what]);
        }
        due("what -1", x.leave(0, -1), NONE);
        due("what 8", x.leave(0, 8), NONE);
        due("leave -1", x.leave(-1, 0), NONE);
        due("leave 1", x.leave(1, 0), NONE);
        x.now(105);
        Checks.law(x, 0, "f5;e99");
        due("the fee stays", x.leave(0, 5), 123);
        due("the end stays", x.leave(0, 6), 107);
    }

    private static void endsByLaw() {
        OrphanShelf x = shelf("p0;e2");
        due("given", x.ask(0, 0, 0, 0), 0);
        x.now(105);
        due("the day ahead of it", x.uses(0, 99, 1, 1), false);
        due("the day given", x.uses(0, 100, 1, 1), true);
        due("the last day", x.uses(0, 101, 1, 1), true);
        due("its end", x.uses(0, 102, 1, 1), false);
        Checks.law(x, 0, "e0");
        due("given for no day", x.ask(0, 0, 0, 0), 1);
        due("it ends at once", x.leave(1, 6), 105);
        due("no use of it", x.uses(1, 105, 1, 1), false);
    }

    private static void using() {
        OrphanShelf x = shelf("p0;w100");
        x.share(0, 0, 100);
        x.ask(0, 0, 0, 0);
        x.ask(0, 0, 0, 0);
        due("no end yet", x.leave(0, 6), NONE);
        due("uses", x.uses(0, 100, 3, 5), true);
        due("uses for nothing", x.uses(0, 100, 100000, 0), true);
        due("uses of the other", x.uses(1, 100, 7, 11), true);
        due("tellings", x.count(7), 3);
        x.comes(0);
        due("of the one", x.paid(0, 0), 15);
        due("of the other", x.paid(0, 1), 77);
    }

    private static void wrongUses() {
        OrphanShelf x = shelf("p0");
        x.ask(0, 0, 0, 0);
        due("leave -1", x.uses(-1, 100, 1, 1), false);
        due("leave 1", x.uses(1, 100, 1, 1), false);
        due("day -1", x.uses(0, -1, 1, 1), false);
        due("behind now", x.uses(0, 101, 1, 1), false);
        due("n 0", x.uses(0, 100, 0, 1), false);
        due("n 100001", x.uses(0, 100, 100001, 1), false);
        due("n MIN", x.uses(0, 100, Integer.MIN_VALUE, 1), false);
        due("pence -1", x.uses(0, 100, 1, -1), false);
        due("pence 100001", x.uses(0, 100, 1, 100001), false);
        due("no tellings", x.count(7), 0);
        due("the most", x.uses(0, 100, 100000, 100000), true);
    }

    private static void coming() {
        OrphanShelf x = shelf("p0;e10");
        x.work(0, 0, 0, 0, 0, 0);
        x.share(0, 0, 10);
        x.ask(0, 0, 0, 0);
        x.ask(0, 1, 0, 0);
        x.now(105);
        x.ask(0, 0, 0, 0);
        x.now(110);
        due("nobody such", x.comes(4), NONE);
        due("owner -1", x.comes(-1), NONE);
        due("one has ended by then", x.comes(0), 1);
        due("came already", x.comes(0), NONE);
        due("the end by law stays", x.leave(0, 6), 110);
        due("of another work", x.leave(1, 6), 110);
        due("ended by coming", x.leave(2, 6), 110);
        due("has no share", x.comes(1), 0);
        due("the day ahead", x.uses(2, 109, 1, 1), true);
        due("not today", x.uses(2, 110, 1, 1), false);
        due("found", x.found(0, 110, 110), 1);
    }

    private static void comingOfHolders() {
        OrphanShelf x = shelf("p0");
        x.share(0, 2, 10);
        x.share(0, 1, 10);
        x.merge(2, 3, 102);
        x.ask(0, 0, 0, 0);
        x.now(102);
        due("the part holds no more", x.comes(2), 0);
        due("lasts still", x.leave(0, 6), NONE);
        x.now(103);
        due("the whole holds", x.comes(3), 1);
        due("ended", x.leave(0, 6), 103);
        x.now(104);
        due("the other holder", x.comes(1), 0);
        due("ended once", x.leave(0, 6), 103);
    }

    private static void comingTwiceOnOneDay() {
        OrphanShelf x = shelf("p0");
        x.share(0, 0, 1);
        x.share(0, 1, 10);
        x.ask(0, 0, 0, 0);
        due("the first ends it", x.comes(0), 1);
        due("the second ends nothing more", x.comes(1), 0);
        due("its end", x.leave(0, 6), 100);
    }

    private static void freeOnesDoNotEnd() {
        OrphanShelf x = shelf("u0;w50");
        x.share(0, 0, 10);
        due("free", x.ask(0, 0, 0, 0), 0);
        due("none ends", x.comes(0), 0);
        due("no end", x.leave(0, 6), NONE);
        x.now(500);
        due("used on and on", x.uses(0, 500, 1, 1), true);
    }

    private static void paying() {
        OrphanShelf x = shelf("p0;w33");
        x.share(0, 0, 50);
        x.share(0, 1, 30);
        x.ask(0, 0, 0, 0);
        x.uses(0, 100, 10, 10);
        x.uses(0, 100, 1, 1);
        due("did not come", x.paid(0, 0), NONE);
        x.comes(0);
        due("rounded down", x.paid(0, 0), 101 * 33 * 50 / 10000);
        due("the other did not come", x.paid(1, 0), NONE);
        x.comes(1);
        due("the other's part", x.paid(1, 0), 101 * 33 * 30 / 10000);
        x.comes(2);
        due("who holds nothing", x.paid(2, 0), 0);
        due("leave 1", x.paid(0, 1), NONE);
        due("leave -1", x.paid(0, -1), NONE);
        due("owner 4", x.paid(4, 0), NONE);
        due("owner -1", x.paid(-1, 0), NONE);
    }

    private static void payingByHolders() {
        OrphanShelf x = shelf("p0;w100");
        x.share(0, 2, 20);
        x.share(0, 3, 30);
        x.ask(0, 0, 0, 0);
        x.uses(0, 100, 100, 1);
        x.comes(2);
        x.comes(3);
        due("its own", x.paid(2, 0), 20);
        x.merge(2, 3, 110);
        x.now(109);
        due("today it is its own", x.paid(3, 0), 30);
        x.now(110);
        due("all that one holds today", x.paid(3, 0), 50);
        due("nothing any more", x.paid(2, 0), 0);
    }

    private static void payingAsItWasKnown() {
        OrphanShelf x = shelf("p0;w10(f=0);w40(f=1)");
        x.share(0, 0, 100);
        x.ask(0, 0, 0, 0);
        x.uses(0, 100, 100, 1);
        x.now(120);
        x.look(0, 0, 90, 0);
        x.comes(0);
        due("what was not known then", x.paid(0, 0), 10);
        Checks.law(x, 0, 100, 100, "w77");
        due("laws are as they are now", x.paid(0, 0), 77);
        Checks.law(x, 0, 101, 99999, "w88");
        due("on the day on which it was given", x.paid(0, 0), 77);
    }

    private static void payingGreatSums() {
        OrphanShelf x = shelf("p0;w100");
        x.share(0, 0, 100);
        x.ask(0, 0, 0, 0);
        for (int i = 0; i < 300; i++) {
            x.uses(0, 100, 100000, 100000);
        }
        x.comes(0);
        due("all of it", x.paid(0, 0), 3000000000000L);
    }

    private static void hundredLeaves() {
        OrphanShelf x = shelf("p0");
        for (int i = 0; i < 100; i++) {
            due("leave " + i, x.ask(i % 10, 0, 0, 0), i);
        }
        due("a 101st", x.ask(0, 0, 0, 0), NONE);
        due("one that is refused too", x.ask(0, 0, 0, 1), NONE);
        due("leaves", x.count(6), 100);
        due("shown all the same", x.shown(0), 1);
        x.share(0, 0, 5);
        due("all end", x.comes(0), 100);
        due("the last of them", x.leave(99, 6), 100);
    }

    private static void threeHundredTellings() {
        OrphanShelf x = shelf("p0");
        x.ask(0, 0, 0, 0);
        for (int i = 0; i < 300; i++) {
            due("telling " + i, x.uses(0, 100, 1, 1), true);
        }
        due("a 301st", x.uses(0, 100, 1, 1), false);
        due("tellings", x.count(7), 300);
    }

    private static void shown() {
        OrphanShelf x = new OrphanShelf();
        due("land -1", x.shown(-1), NONE);
        due("land 4", x.shown(4), NONE);
        x.owner(false, 0);
        for (int k = 0; k < 6; k++) {
            x.work(k, 0, 0, 0, 0, NONE);
        }
        x.now(10);
        due("no law", x.shown(0), 0);
        Checks.law(x, 0, "u0(k=0);p0(k=1);p3(k=2);p1(k=3);s4(k=3);p2(k=4)");
        due("free, two uses, one that lacks, one more", x.shown(0), 4);
        x.look(3, 4, 0, NONE);
        due("lacks no more", x.shown(0), 5);
        x.share(1, 0, 5);
        x.look(1, 0, 0, 0);
        due("one who is found has not agreed", x.shown(0), 4);
        x.agree(0, 1);
        due("agreed", x.shown(0), 5);
        due("another land", x.shown(1), 0);
        due("nothing was given", x.count(6), 0);
        for (int w = 6; w < 80; w++) {
            x.work(1, 0, 0, 0, 0, NONE);
        }
        due("all that there can be", x.shown(0), 79);
    }
}
