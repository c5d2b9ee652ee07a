/** Promise 11: number. THE NUMBER for a WORK in a LAND on a DAY as KNOWN on t, by LAWS in FORCE on that DAY. */
public final class Promise11NumberTest {
    private static final Checks P = new Checks("promise 11, number");
    private static final int NONE = OrphanShelf.NONE;
    private static final int[] FAR = {Integer.MIN_VALUE, Integer.MAX_VALUE};

    public static void main(String[] args) {
        withoutOne();
        everyKindOfClause();
        theLastOfTheHighest();
        allOfSAndP();
        inForceFromADayToADay();
        noSuchOnes();
        others();
        striking();
        strikingOnTheFirstAndTheLastDay();
        strikingWhatIsNotThere();
        whatIsStruckDoesNotStrike();
        lettersOfTheWork();
        years();
        foundByTheDay();
        foundWithOtherLetters();
        fromTheLeftOn();
        withThirtyTwoBits();
        dividedByZero();
        asMuchAsMatters();
        partsAndPieces();
        P.end();
    }

    /** WORK 0 of KIND 6 and LAND 3; in it WORK 1 of KIND 2 and LAND 1, with two SHARES. */
    private static void shelf(OrphanShelf x) {
        x.work(6, 3, 364, 365, 0, NONE);
        x.work(2, 1, 400, 800, 0, 0);
        Shelves.persons(x, 1);
        Shelves.firms(x, 1);
        x.share(1, 0, 10);
        x.share(1, 1, 10);
    }

    private static OrphanShelf made() {
        return Checks.made(Promise11NumberTest::shelf);
    }

    private static void withoutOne() {
        OrphanShelf x = made();
        int[] without = {0, 0, NONE, NONE, 0, 0, NONE, 0, 0};
        for (int what = 0; what < without.length; what++) {
            P.due("no LAW: " + what, x.number(1, 0, 5, 5, what), without[what]);
        }
        Shelves.law(x, 0, "a1(k=1);l2(k=1);t3(k=1);u4(k=1);f5(k=1);w6(k=1);e7(k=1);s8(k=1);p2(k=1)");
        for (int what = 0; what < without.length; what++) {
            P.due("none that holds: " + what, x.number(1, 0, 5, 5, what), without[what]);
        }
    }

    private static void everyKindOfClause() {
        OrphanShelf x = made();
        Shelves.law(x, 0, "a1;l2;t3;u4;f5;w6;e7;s8;p2");
        int[] due = {1, 2, 3, 4, 5, 6, 7, 1 << 8, 1 << 2};
        for (int what = 0; what < due.length; what++) {
            P.due("what " + what, x.number(1, 0, 5, 5, what), due[what]);
        }
        Shelves.law(x, 0, "a999999;l999999;t999999;u999999;f999999;w100;e999999;s11;p3;s0;p0");
        int[] most = {999999, 999999, 999999, 999999, 999999, 100, 999999, 1 << 11 | 1 << 8 | 1, 8 | 4 | 1};
        for (int what = 0; what < most.length; what++) {
            P.due("the most: " + what, x.number(1, 0, 5, 5, what), most[what]);
        }
        Shelves.law(x, 0, "a0;l0;t0;u0;f0;w0;e0");
        for (int what = 0; what < 7; what++) {
            P.due("0 is a number: " + what, x.number(1, 0, 5, 5, what), 0);
        }
    }

    private static void theLastOfTheHighest() {
        String[] letters = {"a", "l", "t", "u", "f", "w", "e"};
        for (int what = 0; what < letters.length; what++) {
            String c = letters[what];
            OrphanShelf x = made();
            Shelves.law(x, 0, c + "1;" + c + "2;" + c + "3(k=1)");
            P.due(c + ": the last that holds", x.number(1, 0, 5, 5, what), 2);
            Shelves.law(x, 0, c + "4;" + c + "5(k=2);" + c + "6(k=1);" + c + "7(k=1)");
            P.due(c + ": of the highest LAW", x.number(1, 0, 5, 5, what), 5);
            Shelves.law(x, 0, c + "8(k=1)");
            P.due(c + ": of the highest that holds", x.number(1, 0, 5, 5, what), 5);
            Shelves.law(x, 1, c + "9");
            P.due(c + ": not of another LAND", x.number(1, 0, 5, 5, what), 5);
            Shelves.law(x, 0, 6, 99999, c + "10");
            P.due(c + ": not of one that is not in FORCE yet", x.number(1, 0, 5, 5, what), 5);
            P.due(c + ": of that one then", x.number(1, 0, 6, 5, what), 10);
        }
    }

    private static void allOfSAndP() {
        OrphanShelf x = made();
        Shelves.law(x, 0, "s0;s11;s5(k=1);p0;s0");
        Shelves.law(x, 0, "s2;p3;p1(k=1);s11");
        P.due("SOURCES of both", x.number(1, 0, 5, 5, 7), 1 | 1 << 11 | 1 << 2);
        P.due("uses of both", x.number(1, 0, 5, 5, 8), 9);
        Shelves.law(x, 0, "s1;s3;s4;s5;s6;s7;s8;s9;s10;p1;p2");
        P.due("all SOURCES", x.number(1, 0, 5, 5, 7), 4095);
        P.due("all uses", x.number(1, 0, 5, 5, 8), 15);
    }

    private static void inForceFromADayToADay() {
        OrphanShelf x = made();
        Shelves.law(x, 0, 10, 20, "f7");
        int[] days = {0, 9, 10, 11, 19, 20, 21, 99999};
        int[] fees = {0, 0, 7, 7, 7, 7, 0, 0};
        for (int i = 0; i < days.length; i++) {
            P.due("on DAY " + days[i], x.number(1, 0, days[i], 5, 4), fees[i]);
        }
        P.due("LAWS are as they are now: KNOWN on 0", x.number(1, 0, 10, 0, 4), 7);
        Shelves.law(x, 1, 30, 30, "f8");
        P.due("the DAY ahead of one DAY", x.number(1, 1, 29, 5, 4), 0);
        P.due("one DAY", x.number(1, 1, 30, 5, 4), 8);
        P.due("the DAY behind it", x.number(1, 1, 31, 5, 4), 0);
        Shelves.law(x, 2, 0, 99999, "f9");
        P.due("the first DAY", x.number(1, 2, 0, 5, 4), 9);
        P.due("the last DAY", x.number(1, 2, 99999, 99999, 4), 9);
    }

    private static void lawful(OrphanShelf x) {
        shelf(x);
        Shelves.law(x, 0, "a1;l2;t3;u4;f5;w6;e7;s8;p2");
    }

    private static void noSuchOnes() {
        for (int w : new int[] {-1, 2, 79, 80, FAR[0], FAR[1]}) {
            P.isNone("WORK " + w, Promise11NumberTest::lawful, x -> x.number(w, 0, 5, 5, 0));
        }
        for (int land : new int[] {-1, 4, FAR[0], FAR[1]}) {
            P.isNone("LAND " + land, Promise11NumberTest::lawful, x -> x.number(1, land, 5, 5, 0));
        }
        for (int day : new int[] {-1, 100000, FAR[0], FAR[1]}) {
            P.isNone("DAY " + day, Promise11NumberTest::lawful, x -> x.number(1, 0, day, 5, 0));
            P.isNone("as KNOWN on " + day, Promise11NumberTest::lawful, x -> x.number(1, 0, 5, day, 0));
        }
    }

    private static void others() {
        for (int what : new int[] {-1, 9, 10, FAR[0], FAR[1]}) {
            P.isNone("what " + what, Promise11NumberTest::lawful, x -> x.number(1, 0, 5, 5, what));
        }
    }

    private static void striking() {
        OrphanShelf x = made();
        Shelves.law(x, 0, "f1;f2;s1;p0");
        P.due("the last CLAUSE", x.number(1, 0, 5, 5, 4), 2);
        Shelves.law(x, 0, 0, 50, "x0.1;x0.2");
        P.due("struck", x.number(1, 0, 5, 5, 4), 1);
        P.due("a SOURCE is struck", x.number(1, 0, 5, 5, 7), 0);
        P.due("a use is not", x.number(1, 0, 5, 5, 8), 1);
        P.due("the x is in FORCE", x.number(1, 0, 50, 5, 4), 1);
        P.due("it is not any more", x.number(1, 0, 51, 5, 4), 2);
        Shelves.law(x, 0, 60, 99999, "x0.0;x0.1;x0.2;x0.3");
        P.due("all are struck: f", x.number(1, 0, 60, 5, 4), 0);
        P.due("all are struck: p", x.number(1, 0, 60, 5, 8), 0);
        Shelves.law(x, 0, 60, 99999, "f9");
        P.due("a higher LAW is not", x.number(1, 0, 60, 5, 4), 9);
        OrphanShelf y = made();
        Shelves.law(y, 0, 10, 20, "f1;f2");
        Shelves.law(y, 0, 15, 30, "x0.1");
        P.due("the DAY ahead of the x", y.number(1, 0, 14, 14, 4), 2);
        P.due("in FORCE on that DAY, not on t", y.number(1, 0, 15, 5, 4), 1);
        P.due("nor on this t", y.number(1, 0, 20, 99999, 4), 1);
        P.due("the x is in FORCE on t alone", y.number(1, 0, 14, 15, 4), 2);
    }

    private static void strikingOnTheFirstAndTheLastDay() {
        int[][] spans = {{10, 20, 0, 99999}, {0, 99999, 10, 20}, {10, 20, 10, 20}, {10, 10, 10, 10}, {0, 10, 10, 20}};
        for (int[] span : spans) {
            OrphanShelf x = made();
            Shelves.law(x, 0, "f1");
            Shelves.law(x, 0, span[0], span[1], "f2");
            Shelves.law(x, 0, span[2], span[3], "x1.0");
            for (int day : new int[] {0, 9, 10, 11, 19, 20, 21, 99999}) {
                boolean stands = span[0] <= day && day <= span[1];
                boolean strikes = span[2] <= day && day <= span[3];
                P.due("on DAY " + day, x.number(1, 0, day, 5, 4), stands && !strikes ? 2 : 1);
            }
        }
    }

    private static void strikingWhatIsNotThere() {
        OrphanShelf x = made();
        Shelves.law(x, 0, "f8;x0.0;f9(k=1)");
        P.due("not of its own LAW", x.number(1, 0, 5, 5, 4), 8);
        Shelves.law(x, 0, "x0.3;x0.11;x2.0;x19.11;l5");
        P.due("no such CLAUSE, a higher LAW, none yet", x.number(1, 0, 5, 5, 4), 8);
        P.due("its own are not struck", x.number(1, 0, 5, 5, 1), 5);
        Shelves.law(x, 0, "f4");
        P.due("the higher one's is not struck", x.number(1, 0, 5, 5, 4), 4);
        Shelves.law(x, 1, "x0.0;x1.4;x2.0");
        P.due("an x of another LAND", x.number(1, 0, 5, 5, 4), 4);
        P.due("none of that LAND's own", x.number(1, 1, 5, 5, 4), 0);
        OrphanShelf most = made();
        for (int i = 0; i < 19; i++) {
            Shelves.law(most, i == 18 ? 0 : 1, "a1;a1;a1;a1;a1;a1;a1;a1;a1;a1;f6;f7");
        }
        Shelves.law(most, 0, 0, 9, "x18.11");
        P.due("CLAUSE 11 of LAW 18 by LAW 19", most.number(1, 0, 5, 5, 4), 6);
        P.due("not struck then", most.number(1, 0, 10, 5, 4), 7);
    }

    private static void whatIsStruckDoesNotStrike() {
        OrphanShelf x = made();
        Shelves.law(x, 0, "f1;f2");
        Shelves.law(x, 0, "x0.1");
        P.due("struck", x.number(1, 0, 5, 5, 4), 1);
        Shelves.law(x, 0, 0, 40, "x1.0");
        P.due("the x is struck", x.number(1, 0, 5, 5, 4), 2);
        P.due("it strikes again", x.number(1, 0, 41, 5, 4), 1);
        Shelves.law(x, 0, 0, 30, "x2.0");
        P.due("what strikes the x is struck", x.number(1, 0, 30, 5, 4), 1);
        P.due("and is not any more", x.number(1, 0, 31, 5, 4), 2);
    }

    /** THE NUMBER f of WORK 1 on DAY 5 by a TEXT. */
    private static int fee(int w, String text) {
        OrphanShelf x = made();
        Shelves.law(x, 0, text);
        return x.number(w, 0, 5, 5, 4);
    }

    private static void lettersOfTheWork() {
        String[] first = {"k=6", "l=3", "y=0", "z=1", "o=0", "f=0", "j=0", "d=5"};
        String[] second = {"k=2", "l=1", "y=1", "z=2", "o=2", "f=0", "j=1", "d=5"};
        for (int i = 0; i < first.length; i++) {
            P.due(first[i], fee(0, "f7(" + first[i] + ")"), 7);
            P.due("not " + first[i], fee(0, "f7(!" + first[i] + ")"), 0);
            P.due(second[i], fee(1, "f7(" + second[i] + ")"), 7);
        }
        OrphanShelf x = made();
        Shelves.law(x, 0, "f7(d=0);f8(d=99999)");
        P.due("d on DAY 0", x.number(1, 0, 0, 5, 4), 7);
        P.due("d on the last DAY", x.number(1, 0, 99999, 5, 4), 8);
    }

    private static void years() {
        int[] days = {0, 364, 365, 729, 730, 99644, 99645, 99999};
        int[] years = {0, 0, 1, 1, 2, 272, 273, 273};
        for (int i = 0; i < days.length; i++) {
            OrphanShelf x = new OrphanShelf();
            x.work(0, 0, days[i], days[i], 0, NONE);
            x.work(0, 0, 0, days[i], 0, NONE);
            Shelves.law(x, 0, "a1(y=" + years[i] + ");l1(z=" + years[i] + ")");
            P.due("the YEAR of DAY " + days[i], x.number(0, 0, 5, 5, 0), 1);
            P.due("of the last DAY " + days[i], x.number(1, 0, 5, 5, 1), 1);
            P.due("of the first DAY", x.number(1, 0, 5, 5, 0), years[i] == 0 ? 1 : 0);
        }
    }

    private static void foundByTheDay() {
        OrphanShelf x = new OrphanShelf();
        x.now(20);
        Shelves.firms(x, 3);
        Shelves.works(x, 1);
        x.share(0, 0, 10);
        x.share(0, 1, 10);
        Shelves.law(x, 0, "f1(f=1);f2(f=2);f3(f=3)");
        P.due("nobody is found", x.number(0, 0, 20, 20, 4), 0);
        x.look(0, 0, 10, 0);
        P.due("one is", x.number(0, 0, 10, 20, 4), 1);
        P.due("not ahead of that DAY", x.number(0, 0, 9, 20, 4), 0);
        P.due("not KNOWN yet", x.number(0, 0, 10, 19, 4), 0);
        x.now(30);
        x.merge(0, 2, 15);
        P.due("held by another who is not found", x.number(0, 0, 15, 30, 4), 0);
        P.due("its OWNER holds it still", x.number(0, 0, 14, 30, 4), 1);
        P.due("the part is not KNOWN yet", x.number(0, 0, 15, 29, 4), 1);
        x.merge(1, 2, 16);
        x.letter(2, 30);
        x.answer(0);
        P.due("both SHARES are one's", x.number(0, 0, 30, 30, 4), 2);
    }

    private static void foundWithOtherLetters() {
        String[] conditions = {"f=1&o=2", "o=2&f=1", "f+o=3", "o-f=1", "k=9|f=1|l=9", "!f=0&d=20", "[f*o]=2"};
        for (String condition : conditions) {
            OrphanShelf x = new OrphanShelf();
            x.now(20);
            Shelves.firms(x, 2);
            Shelves.works(x, 1);
            x.share(0, 0, 10);
            x.share(0, 1, 10);
            Shelves.law(x, 0, "f7(" + condition + ");w9(k=0)");
            P.due(condition + ": nobody is found", x.number(0, 0, 20, 20, 4), 0);
            x.look(0, 0, 20, 1);
            P.due(condition + ": one is", x.number(0, 0, 20, 20, 4), 7);
            Shelves.law(x, 0, "e5");
            P.due(condition + ": behind a LAW that does not ask", x.number(0, 0, 20, 20, 4), 7);
        }
    }

    private static void holds(String condition, boolean want) {
        P.due(condition, fee(1, "f7(" + condition + ")"), want ? 7 : 0);
    }

    private static void fromTheLeftOn() {
        holds("1+2*3=7", true);
        holds("[1+2]*3=9", true);
        holds("7-2-1=4", true);
        holds("7-[2-1]=6", true);
        holds("24/4/2=3", true);
        holds("24/[4/2]=12", true);
        holds("7*3%4=1", true);
        holds("7%4*3=9", true);
        holds("7/2*2=6", true);
        holds("100-7*7%5/2=98", true);
        holds("3<3", false);
        holds("3<4", true);
        holds("3>3", false);
        holds("4>3", true);
        holds("3=3", true);
        holds("3=4", false);
        holds("000003=3", true);
        holds("999999>999998", true);
    }

    private static void withThirtyTwoBits() {
        holds("0-1<0", true);
        holds("0-7/2=0-3", true);
        holds("[0-7]/2=0-3", true);
        holds("[0-7]%2=0-1", true);
        holds("7%[0-2]=1", true);
        holds("999999*999999=0-[729379*1000+967]", true);
        holds("65536*32767+65535>0", true);
        holds("65536*32767+65535+1<0", true);
        holds("65536*32768<0", true);
        holds("65536*32768-1>0", true);
        holds("0-65536*32768<0", true);
        holds("65536*65536=0", true);
        holds("65536*32768/[0-1]=65536*32768", true);
        holds("65536*32768%[0-1]=0", true);
    }

    private static void dividedByZero() {
        holds("1/0=0", false);
        holds("0/0=0", false);
        holds("1%0=0", false);
        holds("1/[k-2]=0", false);
        holds("1%[l-1]=0", false);
        holds("1/[k-1]=1", true);
        holds("0/1=0", true);
        holds("0*[1/[k-2]]=0", false);
        holds("1/0<0", false);
        holds("1/0>0", false);
        holds("!1/0=0", false);
        holds("!(1/0=0)", false);
        holds("k=1|1/0=0", false);
        holds("k=2&1/0=0", false);
        holds("k=1|1/0=0|k=2", false);
        holds("(1/0=0)|k=2", false);
        P.due("the other CLAUSES count", fee(1, "f5;f6(1/0=0)"), 5);
        P.due("those behind it too", fee(1, "f6(1/0=0);f5(k=2)"), 5);
    }

    private static void asMuchAsMatters() {
        holds("k=2|1/0=0", true);
        holds("k=3&1/0=0|l=1", true);
        holds("k=2|1/0=0&1/0=0|1/0=0", true);
        holds("!(k=3&1/0=0)", true);
        holds("(k=2|1/0=0)&l=1", true);
        holds("(k=3&1/0=0&1/0=0&1/0=0)|l=1", true);
        holds("!(k=2|1/0=0)|l=1", true);
        holds("k=3&!(1/0=0)|k=3&(1/0=0|1/0=0)|l=1", true);
        holds("k=3&1/0=0", false);
    }

    private static void partsAndPieces() {
        holds("k=2&l=1", true);
        holds("k=2&l=2", false);
        holds("k=3&l=1", false);
        holds("k=3|l=1", true);
        holds("k=2|l=3", true);
        holds("k=3|l=3", false);
        holds("k=3&k=2|l=1", true);
        holds("l=1|k=3&k=3", true);
        holds("k=3&(k=2|l=1)", false);
        holds("[k]=2&!(l=2|l=3)", true);
        holds("!k=2|l=2", false);
        holds("!k=3&!l=3", true);
        holds("!k=3&l=3", false);
        holds("!!k=2", true);
        holds("!!!k=2", false);
        holds("(k=2|k=3)&(l=2|l=1)", true);
        holds("(k=2|k=3)&(l=2|l=3)", false);
        holds("((((k=2))))", true);
        holds("!(!(!(k=2)))", false);
    }
}
