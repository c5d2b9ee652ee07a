import java.util.Random;

/** Promises 9 to 13: the tape, texts and their faults, conditions, numbers, terms. */
public final class LawsTest {
    private static final Checks CHECKS = new Checks("laws");
    private static final int NONE = OrphanShelf.NONE;

    public static void main(String[] args) {
        tape();
        wrongCalls();
        theTapeBehindALaw();
        clausesAndNumbers();
        faultsOfNumbers();
        faultsOfConditions();
        faultsOfDepth();
        twelveClauses();
        facts();
        foundInConditions();
        reckoning();
        division();
        asMuchAsMatters();
        inForce();
        striking();
        theLastOfTheHighest();
        wrongNumbers();
        terms();
        termsAsKnown();
        termsByHolders();
        freedom();
        drawnTexts();
        CHECKS.end();
    }

    private static void due(String call, long got, long want) {
        CHECKS.due(call, got, want);
    }

    private static void due(String call, boolean got, boolean want) {
        CHECKS.due(call, got, want);
    }

    private static void tape() {
        OrphanShelf x = new OrphanShelf();
        for (int i = 1; i <= 10; i++) {
            due("feed " + i, x.feed(-1, 0, 0, 0, i), 20 * i);
        }
        due("an eleventh", x.feed(0, 0, 0, 0, 0), NONE);
        due("bytes", x.count(8), 200);
        x = new OrphanShelf();
        x.work(0, 0, 0, 0, 0, NONE);
        Checks.law(x, 0, "s1;s2;s3;s4;s5;s6;s7;s8;s9;s10;s0");
        due("highest byte first", x.feed(0x00010203, 0x04050607, 0xff000000, 0, 0), 20);
        due("an order of the first eight", x.judge(0, 0, 8), 0);
        due("empty behind it", x.count(8), 0);
        x.feed(0x00010203, 0x04050607, 0xff000000, 0, 0);
        due("bytes above 127 are no sources", x.judge(0, 0, 9), -2);
    }

    private static void wrongCalls() {
        OrphanShelf x = new OrphanShelf();
        Checks.feed(x, "a1;a1;a1;a1;a1;a1;a1");
        due("land -1", x.law(-1, 0, 9, 2), NONE);
        due("land 4", x.law(4, 0, 9, 2), NONE);
        due("from -1", x.law(0, -1, 9, 2), NONE);
        due("to 100000", x.law(0, 0, 100000, 2), NONE);
        due("backwards", x.law(0, 9, 8, 2), NONE);
        due("n 0", x.law(0, 0, 9, 0), NONE);
        due("n -1", x.law(0, 0, 9, -1), NONE);
        due("n 21", x.law(0, 0, 9, 21), NONE);
        due("the tape stays", x.count(8), 20);
        due("one day", x.law(0, 9, 9, 2), 0);
        for (int i = 1; i < 20; i++) {
            due("law " + i, Checks.law(x, 0, "a1"), i);
        }
        Checks.feed(x, "a1");
        due("a 21st", x.law(0, 0, 9, 2), NONE);
        due("the tape stays here too", x.count(8), 20);
        due("laws", x.count(3), 20);
    }

    private static void theTapeBehindALaw() {
        OrphanShelf x = new OrphanShelf();
        Checks.feed(x, "a1;l2;and more than is read of it");
        due("the first five bytes", x.law(0, 0, 9, 5), 0);
        due("empty", x.count(8), 0);
        due("two clauses", x.count(20), 2);
        due("a fault", Checks.law(x, 0, "a1;q"), -1003);
        due("empty with a fault too", x.count(8), 0);
        due("no law", x.count(3), 1);
        due("no clauses", x.count(21), NONE);
        due("200 bytes", Checks.law(x, 0, long200()), 1);
        due("one clause of 200 bytes", x.count(21), 1);
    }

    private static String long200() {
        StringBuilder text = new StringBuilder("f7(0");
        while (text.length() < 196) {
            text.append("+1");
        }
        return text.append(">95)").substring(0, 200);
    }

    private static int faultOf(String text) {
        return Checks.law(new OrphanShelf(), 0, text);
    }

    private static void fault(String text, int want) {
        due("law " + text, faultOf(text), want);
    }

    private static void clausesAndNumbers() {
        String[] good = {"s0", "s11", "s000011", "a0", "a999999", "l1", "t70", "u0", "f50", "p0", "p3", "w0", "w100",
            "e1", "x0.0", "x19.11", "x00.000", "a1;x0.0;a2(k=1)", "a1(!!!!!k=1)", "a1(k=1&k=2|k=3&!k=4)",
            "a1([[[[[k]]]]]=1)", "a1((((((k=1))))))", "a1(k=[[[[[1]]]]]&[[[[[2]]]]]=k)", "a1(!(!([k]=1)))",
            "a1(k+l-y*z/o%f+j-d<000000)"};
        for (String text : good) {
            fault(text, 0);
        }
    }

    private static void faultsOfNumbers() {
        fault(";", -1000);
        fault("A1", -1000);
        fault(" a1", -1000);
        fault("k1", -1000);
        fault("a", -1001);
        fault("a-1", -1001);
        fault("a(k=1)", -1001);
        fault("a1 ", -1002);
        fault("a1,a2", -1002);
        fault("a1;", -1003);
        fault("a1;;a1", -1003);
        fault("a1;z1", -1003);
        fault("s12", -3001);
        fault("s12q", -3001);
        fault("s12;a", -3001);
        fault("s1234567", -2007);
        fault("s999999", -3001);
        fault("s0000012", -2007);
        fault("s000012", -3001);
        fault("p4", -3001);
        fault("w101", -3001);
        fault("a1;w101(q", -3004);
        fault("a1;p3;s12", -3007);
        fault("x20.0", -3001);
        fault("x20", -3001);
        fault("x1", -1002);
        fault("x1;", -1002);
        fault("x1.", -1003);
        fault("x1.12", -3003);
        fault("x1.q", -1003);
        fault("x.1", -1001);
        fault("x1.1.1", -1004);
        fault("x1.1(k=1)", -1004);
        fault("x0000001.1", -2007);
        fault("x1.0000001", -2009);
        fault("a1234567", -2007);
    }

    private static void faultsOfConditions() {
        fault("a1(", -1003);
        fault("a1()", -1003);
        fault("a1(k)", -1004);
        fault("a1(k=)", -1005);
        fault("a1(k=1", -1006);
        fault("a1(k=1)(", -1007);
        fault("a1(k=1);", -1008);
        fault("a1(k=1=1)", -1006);
        fault("a1(k<=1)", -1005);
        fault("a1(-1=k)", -1003);
        fault("a1(k=-1)", -1005);
        fault("a1(k+=1)", -1005);
        fault("a1(k**1=1)", -1005);
        fault("a1((k)=1)", -1005);
        fault("a1(k=(1))", -1005);
        fault("a1([k=1])", -1005);
        fault("a1([k)=1)", -1005);
        fault("a1(k]=1)", -1004);
        fault("a1([k]1=1)", -1006);
        fault("a1(k1=1)", -1004);
        fault("a1(1k=1)", -1004);
        fault("a1(k=1&)", -1007);
        fault("a1(k=1&&k=2)", -1007);
        fault("a1(k=1|)", -1007);
        fault("a1(|k=1)", -1003);
        fault("a1((k=1)", -1008);
        fault("a1((k=1)k=1)", -1008);
        fault("a1((k=1)+1=1)", -1008);
        fault("a1(k=1))", -1007);
        fault("a1(!)", -1004);
        fault("a1(k!=1)", -1004);
        fault("a1(!k)", -1005);
        fault("a1(s=1)", -1003);
        fault("a1(k=1234567)", -2011);
        fault("a1(1234567=k)", -2009);
        fault("a1(k=999999)", 0);
        fault("a1(k=1;a1)", -1006);
        fault("a1(k=1\u0000)", -1006);
        fault("a1(k=\u00ff)", -1005);
    }

    private static void faultsOfDepth() {
        fault("a1(((((((k=1)))))))", -5008);
        fault("a1(!!!!!!k=1)", -5008);
        fault("a1([[[[[[k]]]]]]=1)", -5008);
        fault("a1(!(!([k]=1)))", 0);
        fault("a1(!(!(![k]=1)))", -5008);
        fault("a1(!(!([[k]]=1)))", -5008);
        fault("a1(!!!!!k=1&!!!!!k=2|!!!!!k=3)", 0);
        fault("a1(!!!!!k=1&!!!!!!k=2)", -5017);
        fault("a1(!!!!!k=1);a1(!!!!!k=1)", 0);
        fault("a1(!!!!!k=[1])", -5010);
        fault("a1((((((k=(", -1010);
        fault("a1((((((k!(", -1009);
        fault("a1(((((([", -5008);
        fault("a1((((((!", -5008);
        fault("a1((((((&", -1008);
        fault("a1(!(k=1)&!(!(k=1)))", 0);
        fault("a1(!(k=1)&!(!(!(k=1))))", -5015);
    }

    private static void twelveClauses() {
        String twelve = "a1;a1;a1;a1;a1;a1;a1;a1;a1;a1;a1;a1";
        OrphanShelf x = new OrphanShelf();
        due("twelve", Checks.law(x, 0, twelve), 0);
        due("counted", x.count(20), 12);
        fault(twelve + ";a1", -4036);
        fault(twelve + ";x", -4036);
        fault(twelve + ";", -1036);
        fault(twelve + ";q", -1036);
        fault(twelve + ";;", -1036);
        fault(twelve + "(", -1036);
    }

    /** THE NUMBER f of a WORK in LAND 0 on DAY 5 by one TEXT. */
    private static int fee(OrphanShelf x, int w, String text) {
        Checks.law(x, 0, text);
        return x.number(w, 0, 5, 5, 4);
    }

    private static OrphanShelf shelf() {
        OrphanShelf x = new OrphanShelf();
        x.work(6, 3, 364, 365, 0, NONE);
        x.work(2, 1, 400, 800, 0, 0);
        x.owner(false, 0);
        x.owner(true, 0);
        x.share(1, 0, 10);
        x.share(1, 1, 10);
        return x;
    }

    private static void facts() {
        String[] first = {"k=6", "l=3", "y=0", "z=1", "o=0", "f=0", "j=0", "d=5"};
        String[] second = {"k=2", "l=1", "y=1", "z=2", "o=2", "f=0", "j=1", "d=5"};
        for (int i = 0; i < first.length; i++) {
            due(first[i], fee(shelf(), 0, "f7(" + first[i] + ")"), 7);
            due("not " + first[i], fee(shelf(), 0, "f7(!" + first[i] + ")"), 0);
            due(second[i], fee(shelf(), 1, "f7(" + second[i] + ")"), 7);
        }
    }

    private static void foundInConditions() {
        OrphanShelf x = new OrphanShelf();
        x.now(20);
        x.owner(true, 0);
        x.owner(true, 0);
        x.owner(true, 0);
        x.work(0, 0, 0, 0, 0, NONE);
        x.share(0, 0, 10);
        x.share(0, 1, 10);
        Checks.law(x, 0, "f1(f=1);f2(f=2);f3(f=3)");
        due("nobody is found", x.number(0, 0, 20, 20, 4), 0);
        x.look(0, 0, 10, 0);
        due("one is", x.number(0, 0, 10, 20, 4), 1);
        due("not ahead of that day", x.number(0, 0, 9, 20, 4), 0);
        due("not known yet", x.number(0, 0, 10, 19, 4), 0);
        x.now(30);
        x.merge(0, 2, 15);
        due("held by another who is not found", x.number(0, 0, 15, 30, 4), 0);
        due("its owner holds it still", x.number(0, 0, 14, 30, 4), 1);
        due("the merging is not known yet", x.number(0, 0, 15, 29, 4), 1);
        x.merge(1, 2, 16);
        x.letter(2, 30);
        x.answer(0);
        due("both shares", x.number(0, 0, 30, 30, 4), 2);
    }

    private static void holds(String condition, boolean want) {
        due(condition, fee(shelf(), 1, "f7(" + condition + ")"), want ? 7 : 0);
    }

    private static void reckoning() {
        holds("1+2*3=7", true);
        holds("[1+2]*3=9", true);
        holds("7-2-1=4", true);
        holds("24/4/2=3", true);
        holds("7*3%4=1", true);
        holds("7%4*3=9", true);
        holds("7/2*2=6", true);
        holds("0-7/2=0-3", true);
        holds("[0-7]/2=0-3", true);
        holds("[0-7]%2=0-1", true);
        holds("[0-7]/2<0-3", false);
        holds("3<3", false);
        holds("3>3", false);
        holds("3=3", true);
        holds("0-1<0", true);
        holds("999999*999999=0-[729379*1000+967]", true);
        holds("999999*2147+483647+2147+1<0", true);
        holds("65536*32768<0", true);
        holds("65536*32768/[0-1]=65536*32768", true);
        holds("65536*32768%[0-1]=0", true);
        holds("65536*65536=0", true);
        holds("k=2&l=1", true);
        holds("k=2&l=2", false);
        holds("k=3|l=1", true);
        holds("k=3&k=2|l=1", true);
        holds("l=1|k=3&k=3", true);
        holds("[k]=2&!(l=2|l=3)", true);
        holds("!k=2|l=2", false);
        holds("!k=3&!l=3", true);
        holds("!!k=2", true);
        holds("!!!k=2", false);
        holds("(k=2|k=3)&(l=2|l=1)", true);
        holds("(k=2|k=3)&(l=2|l=3)", false);
        due("a long sum", fee(shelf(), 1, long200()), 7);
    }

    private static void division() {
        holds("1/0=0", false);
        holds("!1/0=0", false);
        holds("1%0=0", false);
        holds("k=1|1/0=0|k=2", false);
        holds("!(1/0=0)", false);
        holds("(1/0=0)|k=2", false);
        holds("0*[1/[k-2]]=0", false);
        holds("1/[k-1]=1", true);
        holds("k=2&1%[l-1]=0", false);
    }

    private static void asMuchAsMatters() {
        holds("k=2|1/0=0", true);
        holds("k=3&1/0=0|l=1", true);
        holds("k=2|1/0=0&1/0=0|1/0=0", true);
        holds("!(k=3&1/0=0)", true);
        holds("(k=2|1/0=0)&l=1", true);
        holds("(k=3&1/0=0&1/0=0&1/0=0)|l=1", true);
        holds("!(k=2|1/0=0)|l=1", true);
        holds("k=3&!(1/0=0)|k=3&(1/0=0|1/0=0)|l=1", true);
    }

    private static void inForce() {
        OrphanShelf x = shelf();
        Checks.law(x, 0, 10, 20, "f7");
        due("the day ahead", x.number(1, 0, 9, 5, 4), 0);
        due("the first day", x.number(1, 0, 10, 5, 4), 7);
        due("the last day", x.number(1, 0, 20, 5, 4), 7);
        due("the day behind", x.number(1, 0, 21, 5, 4), 0);
        due("another land", x.number(1, 1, 10, 5, 4), 0);
        due("known ahead of it", x.number(1, 0, 10, 0, 4), 7);
    }

    private static void striking() {
        OrphanShelf x = shelf();
        Checks.law(x, 0, "f1;f2;s1;p0");
        due("the last clause", x.number(1, 0, 5, 5, 4), 2);
        Checks.law(x, 0, 0, 50, "x0.1;x0.2;x1.3;l9");
        due("struck", x.number(1, 0, 5, 5, 4), 1);
        due("a source is struck", x.number(1, 0, 5, 5, 7), 0);
        due("not in its own law", x.number(1, 0, 5, 5, 1), 9);
        due("the x is not in force", x.number(1, 0, 51, 5, 4), 2);
        Checks.law(x, 0, 0, 40, "x1.0");
        due("the x is struck", x.number(1, 0, 5, 5, 4), 2);
        due("the other x is not", x.number(1, 0, 5, 5, 7), 0);
        due("the struck x strikes again", x.number(1, 0, 41, 5, 4), 1);
        Checks.law(x, 1, "x0.0;x0.1");
        due("of another land", x.number(1, 0, 45, 5, 4), 1);
        Checks.law(x, 0, "x9.0;x4.0;x0.11;f5");
        due("higher ones, itself, no such clause", x.number(1, 0, 45, 5, 4), 5);
        due("not in force, one's own", fee(shelf(), 1, "f8;x0.0;f9(k=1)"), 8);
        Checks.law(x, 0, 0, 9, "f6");
        due("the higher one counts", x.number(1, 0, 5, 5, 4), 6);
        x = shelf();
        Checks.law(x, 0, 0, 5, "f3");
        Checks.law(x, 0, 0, 9, "x0.0;f4(d=6)");
        due("struck while both are in force", x.number(1, 0, 5, 5, 4), 0);
        due("by the higher one", x.number(1, 0, 6, 5, 4), 4);
    }

    private static void theLastOfTheHighest() {
        OrphanShelf x = shelf();
        due("a without one", x.number(1, 0, 5, 5, 0), 0);
        due("l without one", x.number(1, 0, 5, 5, 1), 0);
        due("t without one", x.number(1, 0, 5, 5, 2), NONE);
        due("u without one", x.number(1, 0, 5, 5, 3), NONE);
        due("f without one", x.number(1, 0, 5, 5, 4), 0);
        due("w without one", x.number(1, 0, 5, 5, 5), 0);
        due("e without one", x.number(1, 0, 5, 5, 6), NONE);
        due("s without one", x.number(1, 0, 5, 5, 7), 0);
        due("p without one", x.number(1, 0, 5, 5, 8), 0);
        Checks.law(x, 0, "a1;l2;t3;u4;f5;w6;e7;s0;s11;p0;p3;s5(k=1)");
        Checks.law(x, 0, "a8;a9(k=2);a10(k=1);s2;p3;t5(k=1)");
        due("the last that holds", x.number(1, 0, 5, 5, 0), 9);
        due("l of the lower", x.number(1, 0, 5, 5, 1), 2);
        due("t of the lower", x.number(1, 0, 5, 5, 2), 3);
        due("u", x.number(1, 0, 5, 5, 3), 4);
        due("f", x.number(1, 0, 5, 5, 4), 5);
        due("w", x.number(1, 0, 5, 5, 5), 6);
        due("e", x.number(1, 0, 5, 5, 6), 7);
        due("s of both", x.number(1, 0, 5, 5, 7), 1 | 1 << 11 | 1 << 2);
        due("p of both", x.number(1, 0, 5, 5, 8), 9);
        Checks.law(x, 0, "a0;t0;e0");
        due("a 0 counts", x.number(1, 0, 5, 5, 0), 0);
        due("t 0 is one", x.number(1, 0, 5, 5, 2), 0);
        due("e 0 is one", x.number(1, 0, 5, 5, 6), 0);
    }

    private static void wrongNumbers() {
        OrphanShelf x = shelf();
        due("no such work", x.number(2, 0, 0, 0, 0), NONE);
        due("work -1", x.number(-1, 0, 0, 0, 0), NONE);
        due("land -1", x.number(0, -1, 0, 0, 0), NONE);
        due("land 4", x.number(0, 4, 0, 0, 0), NONE);
        due("day -1", x.number(0, 0, -1, 0, 0), NONE);
        due("day 100000", x.number(0, 0, 100000, 0, 0), NONE);
        due("known -1", x.number(0, 0, 0, -1, 0), NONE);
        due("known 100000", x.number(0, 0, 0, 100000, 0), NONE);
        due("what -1", x.number(0, 0, 0, 0, -1), NONE);
        due("what 9", x.number(0, 0, 0, 0, 9), NONE);
        due("what MAX", x.number(0, 0, 0, 0, Integer.MAX_VALUE), NONE);
        due("free: no term", x.free(0, 0, 0, 0), 0);
        Checks.law(x, 0, "u0");
        due("term", x.term(0, 0, 0, 0, 0), 364);
        due("term: no such work", x.term(2, 0, 0, 0, 0), NONE);
        due("term: land 4", x.term(0, 4, 0, 0, 0), NONE);
        due("term: day -1", x.term(0, 0, -1, 0, 0), NONE);
        due("term: known 100000", x.term(0, 0, 0, 100000, 0), NONE);
        due("term: what 2", x.term(0, 0, 0, 0, 2), NONE);
        due("term: what -1", x.term(0, 0, 0, 0, -1), NONE);
        due("free: no such work", x.free(2, 0, 0, 0), NONE);
        due("free: land 4", x.free(0, 4, 0, 0), NONE);
        due("free: day -1", x.free(0, 0, -1, 0), NONE);
        due("free: known 100000", x.free(0, 0, 0, 100000), NONE);
    }

    private static void terms() {
        OrphanShelf x = new OrphanShelf();
        x.now(5000);
        x.owner(false, 0);
        x.owner(false, 0);
        int w = x.work(0, 0, 1000, 1100, 0, NONE);
        Checks.law(x, 0, "t2(k=0);u3(k=0)");
        Checks.law(x, 1, "t2");
        Checks.law(x, 2, "u999999");
        due("no persons: u alone", x.term(w, 0, 9, 9, 0), 1000 + 3 * 365);
        due("the latest", x.term(w, 0, 9, 9, 1), 1100 + 3 * 365);
        due("no persons: no t", x.term(w, 1, 9, 9, 0), NONE);
        due("great years", x.term(w, 2, 9, 9, 1), 1100 + 999999 * 365);
        due("no law", x.term(w, 3, 9, 9, 1), NONE);
        x.share(w, 0, 10);
        due("lives still: none, though u has one", x.term(w, 0, 9, 5000, 0), NONE);
        due("u is asked for alone", x.term(w, 2, 9, 5000, 0), 1000 + 999999 * 365);
        x.died(0, 1200, 1500);
        due("the greater: u", x.term(w, 0, 9, 5000, 0), 1000 + 3 * 365);
        due("the greater: t", x.term(w, 0, 9, 5000, 1), 1500 + 2 * 365);
        due("t alone", x.term(w, 1, 9, 5000, 0), 1200 + 2 * 365);
        x.share(w, 1, 10);
        due("one of two lives still", x.term(w, 1, 9, 5000, 0), NONE);
        x.died(1, 1300, 1400);
        due("the greatest of the first", x.term(w, 1, 9, 5000, 0), 1300 + 2 * 365);
        due("the greatest of the last", x.term(w, 1, 9, 5000, 1), 1500 + 2 * 365);
        x.now(5001);
        x.died(1, 10, 20);
        due("the latest telling", x.term(w, 1, 9, 5001, 0), 1200 + 2 * 365);
        due("as it was known then", x.term(w, 1, 9, 5000, 0), 1300 + 2 * 365);
    }

    private static void termsAsKnown() {
        OrphanShelf x = new OrphanShelf();
        x.owner(false, 0);
        int w = x.work(0, 0, 0, 10, 0, NONE);
        x.share(w, 0, 10);
        Checks.law(x, 0, "u1;u2(f=1)");
        x.now(800);
        x.look(w, 0, 300, 0);
        due("found, as known", x.term(w, 0, 500, 800, 0), 730);
        due("not known yet", x.term(w, 0, 500, 799, 0), 365);
        due("not free, as known", x.free(w, 0, 500, 800), 0);
        due("free, as known then", x.free(w, 0, 500, 799), 1);
        due("maybe, as known then", x.free(w, 0, 370, 799), 2);
    }

    private static void termsByHolders() {
        OrphanShelf x = new OrphanShelf();
        x.now(50);
        x.owner(true, 0);
        x.owner(true, 0);
        int w = x.work(0, 0, 10, 20, 0, NONE);
        x.share(w, 0, 10);
        x.merge(0, 1, 30);
        Checks.law(x, 0, "t2;u1");
        due("firms do not die", x.term(w, 0, 40, 50, 1), 20 + 365);
    }

    private static void freedom() {
        OrphanShelf x = new OrphanShelf();
        int w = x.work(0, 0, 100, 200, 0, NONE);
        Checks.law(x, 0, 0, 99998, "u1");
        due("on the earliest day", x.free(w, 0, 465, 0), 0);
        due("behind it", x.free(w, 0, 466, 0), 2);
        due("on the latest", x.free(w, 0, 565, 0), 2);
        due("behind that", x.free(w, 0, 566, 0), 1);
        due("no law then", x.free(w, 0, 99999, 0), 0);
        due("no law there", x.free(w, 1, 566, 0), 0);
    }

    private static void drawnTexts() {
        Random random = new Random(4711);
        TextMaker maker = new TextMaker(random, "ssaltufpwex");
        for (int i = 0; i < 30000; i++) {
            String text = maker.law();
            fault(text, ModelText.fault(text));
            char[] signs = text.toCharArray();
            signs[random.nextInt(signs.length)] = (char) random.nextInt(256);
            fault(new String(signs), ModelText.fault(new String(signs)));
        }
    }
}
