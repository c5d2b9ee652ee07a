import java.util.Random;

/** Promise 10: law. A LAW by the first bytes of the tape: its number, or the first FAULT from the left. */
public final class Promise10LawTest {
    private static final Checks P = new Checks("promise 10, law");
    private static final int NONE = OrphanShelf.NONE;
    private static final int[] FAR = {Integer.MIN_VALUE, Integer.MAX_VALUE};
    private static final String TWELVE = "a1;a1;a1;a1;a1;a1;a1;a1;a1;a1;a1;a1";

    public static void main(String[] args) {
        noSuchOnes();
        noSuchDays();
        itHasNotSoMany();
        twentyAreThere();
        emptyThen();
        theFirstBytesAlone();
        twoHundredBytes();
        whatStands();
        whatCantStandThere();
        whatCantStandInAnX();
        whatCantStandInACondition();
        theEndToo();
        aSeventhDigit();
        aNumberThatItCantBe();
        askedWhenItsDigitsEnd();
        aThirteenthClause();
        aSeventhOpenOne();
        openTillItsPieceEnds();
        theFirstFromTheLeft();
        noLawBehindAFault();
        manyFaults();
        drawnTexts();
        P.end();
    }

    /** A WORK, LAW 0, and "a1;a1;a1;a1;a1;a1;a1" on the tape. */
    private static void shelf(OrphanShelf x) {
        Shelves.works(x, 1);
        Shelves.law(x, 0, "f7;s3");
        Shelves.feed(x, "a1;a1;a1;a1;a1;a1;a1");
    }

    private static void noSuchOnes() {
        for (int land : new int[] {-1, 4, FAR[0], FAR[1]}) {
            P.isNone("LAND " + land, Promise10LawTest::shelf, x -> x.law(land, 0, 9, 2));
        }
        OrphanShelf x = new OrphanShelf();
        for (int land = 0; land < 4; land++) {
            P.due("LAND " + land, Shelves.law(x, land, "a1"), land);
        }
    }

    private static void noSuchDays() {
        int[][] spans = {{-1, 9}, {-1, -1}, {0, 100000}, {100000, 100000}, {9, 8}, {99999, 0}, {FAR[0], 9},
            {0, FAR[1]}, {FAR[0], FAR[1]}, {1, 0}};
        for (int[] span : spans) {
            P.isNone("from " + span[0] + " to " + span[1], Promise10LawTest::shelf,
                    x -> x.law(0, span[0], span[1], 2));
        }
        OrphanShelf x = new OrphanShelf();
        P.due("DAY 0", Shelves.law(x, 0, 0, 0, "a1"), 0);
        P.due("the last DAY", Shelves.law(x, 0, 99999, 99999, "a1"), 1);
        P.due("all DAYS", Shelves.law(x, 0, 0, 99999, "a1"), 2);
    }

    private static void itHasNotSoMany() {
        for (int n : new int[] {0, -1, 21, 200, 201, FAR[0], FAR[1]}) {
            P.isNone(n + " bytes of twenty", Promise10LawTest::shelf, x -> x.law(0, 0, 9, n));
        }
        P.isNone("one byte of none", x -> Shelves.works(x, 1), x -> x.law(0, 0, 9, 1));
        P.isNone("no byte of none", x -> Shelves.works(x, 1), x -> x.law(0, 0, 9, 0));
        OrphanShelf x = Checks.made(Promise10LawTest::shelf);
        x.law(0, 0, 9, 21);
        x.law(0, 0, 9, 0);
        P.due("the tape stays", x.count(8), 20);
        P.due("all twenty", x.law(0, 0, 9, 20), 1);
        P.due("its CLAUSES", x.count(21), 7);
    }

    private static void nineteenMore(OrphanShelf x) {
        Shelves.works(x, 1);
        for (int i = 0; i < 20; i++) {
            Shelves.law(x, i % 4, "f" + i);
        }
    }

    private static void twentyAreThere() {
        OrphanShelf x = new OrphanShelf();
        for (int i = 0; i < 20; i++) {
            P.due("LAW " + i, Shelves.law(x, i % 4, "a1"), i);
        }
        P.due("LAWS", x.count(3), 20);
        P.due("CLAUSES of the last", x.count(39), 1);
        Checks.Making full = y -> {
            nineteenMore(y);
            Shelves.feed(y, "a1;s12");
        };
        P.isNone("a 21st", full, y -> y.law(0, 0, 9, 2));
        OrphanShelf y = Checks.made(full);
        y.law(0, 0, 9, 2);
        P.due("the tape stays", y.count(8), 20);
        P.due("the highest of LAND 0 counts still", y.number(0, 0, 5, 5, 4), 16);
        OrphanShelf faults = new OrphanShelf();
        for (int i = 0; i < 30; i++) {
            Shelves.law(faults, 0, "q");
        }
        P.due("FAULTS are not counted", Shelves.law(faults, 0, "a1"), 0);
    }

    private static void emptyThen() {
        OrphanShelf x = Checks.made(Promise10LawTest::shelf);
        P.due("a LAW", x.law(0, 0, 9, 5), 1);
        P.due("empty", x.count(8), 0);
        P.due("nothing to read any more", x.law(0, 0, 9, 1), NONE);
        Shelves.feed(x, "a1;q");
        P.due("a FAULT", x.law(0, 0, 9, 4), -1003);
        P.due("empty with a FAULT too", x.count(8), 0);
        P.due("nothing to read", x.law(0, 0, 9, 1), NONE);
    }

    private static void theFirstBytesAlone() {
        OrphanShelf x = new OrphanShelf();
        Shelves.feed(x, "a1;l2;q and more than is read of it");
        P.due("five bytes", x.law(0, 0, 9, 5), 0);
        P.due("two CLAUSES", x.count(20), 2);
        Shelves.feed(x, "a1234567");
        P.due("what stands behind is no digit of it", x.law(0, 0, 9, 7), 1);
        Shelves.feed(x, "s12");
        P.due("one digit of two", x.law(0, 0, 9, 2), 2);
        Shelves.feed(x, "a1;");
        P.due("without the last sign", x.law(0, 0, 9, 2), 3);
        Shelves.feed(x, "a1(k=1)");
        P.due("without its condition", x.law(0, 0, 9, 2), 4);
        Shelves.feed(x, "a1");
        P.due("the letter alone", x.law(0, 0, 9, 1), -1001);
    }

    private static String padded(String head, String tail, int length) {
        StringBuilder text = new StringBuilder(head);
        while (text.length() + tail.length() < length) {
            text.append("+1");
        }
        return text.append(tail).toString();
    }

    private static void twoHundredBytes() {
        OrphanShelf x = new OrphanShelf();
        Shelves.works(x, 1);
        P.due("200 bytes", Shelves.law(x, 0, padded("f7(0", ">95)", 200)), 0);
        P.due("one CLAUSE", x.count(20), 1);
        P.due("96 is above 95", x.number(0, 0, 5, 5, 4), 7);
        P.due("its end is missing", Shelves.law(x, 0, padded("f7(00", ">95", 200)), -1200);
        P.due("its last sign can't stand there", Shelves.law(x, 0, padded("f7(0", ">95q", 200)), -1199);
        P.due("its last number", Shelves.law(x, 0, padded("f7(00", ">1);s12", 200)), -3198);
        P.due("a LAW behind them", Shelves.law(x, 0, "a1"), 1);
        StringBuilder row = new StringBuilder("a1(k=0");
        while (row.length() < 199) {
            row.append(row.length() < 196 ? "&k=0" : "0");
        }
        P.due("a row of PIECES", Shelves.law(x, 0, row + ")"), 2);
        P.due("all hold", x.number(0, 0, 5, 5, 0), 1);
    }

    private static void fault(String text, int want) {
        P.due("law " + text, Shelves.law(new OrphanShelf(), 0, text), want);
    }

    private static void whatStands() {
        String[] good = {"s0", "s11", "s000011", "a0", "a999999", "l0", "l999999", "t0", "t999999", "u0", "u999999",
            "f0", "f999999", "p0", "p3", "p000003", "w0", "w100", "w000100", "e0", "e999999", "x0.0", "x19.11",
            "x000019.000011", "a1;x0.0;a2(k=1)", TWELVE, "a1(!!!!!k=1)", "a1(k=1&k=2|k=3&!k=4)",
            "a1([[[[[k]]]]]=1)", "a1((((((k=1))))))", "a1(k=[[[[[1]]]]]&[[[[[2]]]]]=k)", "a1(!(!([k]=1)))",
            "a1(k+l-y*z/o%f+j-d<000000)", "a1(999999>0)", "s0(0=0);a0(0=0);l0(0=0);t0(0=0);u0(0=0);f0(0=0);"
                + "p0(0=0);w0(0=0);e0(0=0)"};
        for (String text : good) {
            fault(text, 0);
        }
    }

    private static void whatCantStandThere() {
        fault(";", -1000);
        fault("A1", -1000);
        fault(" a1", -1000);
        fault("k1", -1000);
        fault("1", -1000);
        fault("(k=1)", -1000);
        fault("\u0000", -1000);
        fault("\u00ff", -1000);
        fault("a-1", -1001);
        fault("a(k=1)", -1001);
        fault("a;", -1001);
        fault("a1 ", -1002);
        fault("a1,a2", -1002);
        fault("a1.1", -1002);
        fault("a1a2", -1002);
        fault("a1)", -1002);
        fault("a1;;a1", -1003);
        fault("a1;z1", -1003);
        fault("a1;a2\u0000", -1005);
        fault("a1(k=1)(", -1007);
        fault("a1(k=1)a2", -1007);
        fault("a1(k=1))", -1007);
        fault("a1(k=1)0", -1007);
        for (char letter = 0; letter < 256; letter++) {
            fault(letter + "0" + (letter == 'x' ? ".0" : ""), "saltufpwex".indexOf(letter) < 0 ? -1000 : 0);
        }
    }

    private static void whatCantStandInAnX() {
        fault("x.1", -1001);
        fault("x1;", -1002);
        fault("x1,1", -1002);
        fault("x1(k=1)", -1002);
        fault("x1..1", -1003);
        fault("x1.q", -1003);
        fault("x1.;", -1003);
        fault("x1.1.1", -1004);
        fault("x1.1(k=1)", -1004);
        fault("x1.1x", -1004);
        fault("x19.11(", -1006);
    }

    private static void whatCantStandInACondition() {
        fault("a1()", -1003);
        fault("a1(k)", -1004);
        fault("a1(k=)", -1005);
        fault("a1(k=1=1)", -1006);
        fault("a1(k<=1)", -1005);
        fault("a1(-1=k)", -1003);
        fault("a1(k=-1)", -1005);
        fault("a1(k+=1)", -1005);
        fault("a1(k**1=1)", -1005);
        fault("a1((k)=1)", -1005);
        fault("a1(k=(1))", -1005);
        fault("a1([k=1])", -1005);
        fault("a1([k)=1)", -1005);
        fault("a1([]=1)", -1004);
        fault("a1([k=1)", -1005);
        fault("a1(k]=1)", -1004);
        fault("a1([k]1=1)", -1006);
        fault("a1(k[1]=1)", -1004);
        fault("a1(k1=1)", -1004);
        fault("a1(kk=1)", -1004);
        fault("a1(1k=1)", -1004);
        fault("a1(k=1&)", -1007);
        fault("a1(k=1&&k=2)", -1007);
        fault("a1(k=1|)", -1007);
        fault("a1(k=1||k=2)", -1007);
        fault("a1(|k=1)", -1003);
        fault("a1(&k=1)", -1003);
        fault("a1((k=1)k=1)", -1008);
        fault("a1((k=1)+1=1)", -1008);
        fault("a1((k=1)=1)", -1008);
        fault("a1(!)", -1004);
        fault("a1(!&k=1)", -1004);
        fault("a1(k!=1)", -1004);
        fault("a1(k=!1)", -1005);
        fault("a1([!k]=1)", -1004);
        fault("a1(!k)", -1005);
        fault("a1(k=1;a1)", -1006);
        fault("a1(k= 1)", -1005);
        fault("a1(k=1\u0000)", -1006);
        fault("a1(k=\u00ff)", -1005);
        for (char letter = 0; letter < 256; letter++) {
            boolean isFactor = "klyzofjd".indexOf(letter) >= 0 || letter >= '0' && letter <= '9';
            boolean opens = letter == '(' || letter == '[' || letter == '!';
            fault("a1(" + letter + "=1)", isFactor ? 0 : opens ? -1004 : -1003);
        }
    }

    private static void theEndToo() {
        fault("a", -1001);
        fault("a1;", -1003);
        fault("x", -1001);
        fault("x1", -1002);
        fault("x1.", -1003);
        fault("a1(", -1003);
        fault("a1(k", -1004);
        fault("a1(k=", -1005);
        fault("a1(k=1", -1006);
        fault("a1(k=1&", -1007);
        fault("a1(k=1|", -1007);
        fault("a1(!", -1004);
        fault("a1((", -1004);
        fault("a1((k=1", -1007);
        fault("a1((k=1)", -1008);
        fault("a1([", -1004);
        fault("a1([k", -1005);
        fault("a1([k]", -1006);
        fault("a1(k+", -1005);
        fault("a1(k*", -1005);
        fault("a1(k=1);", -1008);
        fault(TWELVE + ";", -1036);
    }

    private static void aSeventhDigit() {
        fault("a123456", 0);
        fault("a1234567", -2007);
        fault("a0000000", -2007);
        fault("a12345678", -2007);
        fault("s1234567", -2007);
        fault("s0000001", -2007);
        fault("p0000001", -2007);
        fault("w0000001", -2007);
        fault("x0000001.1", -2007);
        fault("x000001.0000001", -2014);
        fault("x1.0000001", -2009);
        fault("a1;a1234567", -2010);
        fault("a1(k=123456)", 0);
        fault("a1(k=1234567)", -2011);
        fault("a1(k=12345678)", -2011);
        fault("a1(123456=k)", 0);
        fault("a1(1234567=k)", -2009);
        fault("a1([0000000]=k)", -2010);
        fault("a1(k+1000000=1)", -2011);
    }

    private static void aNumberThatItCantBe() {
        fault("s11", 0);
        fault("s12", -3001);
        fault("s99", -3001);
        fault("s999999", -3001);
        fault("s000012", -3001);
        fault("p3", 0);
        fault("p4", -3001);
        fault("p10", -3001);
        fault("w100", 0);
        fault("w101", -3001);
        fault("w999999", -3001);
        fault("x19.0", 0);
        fault("x20.0", -3001);
        fault("x100.0", -3001);
        fault("x1.11", 0);
        fault("x1.12", -3003);
        fault("x19.12", -3004);
        fault("x000019.12", -3008);
        fault("a1;p3;s12", -3007);
        fault("a1(k=1);w101", -3009);
        fault("a1(999999>w)", -1010);
    }

    private static void askedWhenItsDigitsEnd() {
        fault("s12q", -3001);
        fault("s12(", -3001);
        fault("s12;a", -3001);
        fault("s12;s12", -3001);
        fault("w101(q", -3001);
        fault("x20", -3001);
        fault("x20;", -3001);
        fault("x20.12", -3001);
        fault("x1.12(", -3003);
        fault("s1200000", -2007);
        fault("s9999999", -2007);
        fault("x2000000.1", -2007);
        fault("x1.1200000", -2009);
    }

    private static void aThirteenthClause() {
        OrphanShelf x = new OrphanShelf();
        P.due("twelve", Shelves.law(x, 0, TWELVE), 0);
        P.due("CLAUSES", x.count(20), 12);
        fault(TWELVE + ";a1", -4036);
        fault(TWELVE + ";s", -4036);
        fault(TWELVE + ";x", -4036);
        fault(TWELVE + ";a1;a1", -4036);
        fault(TWELVE + ";s12", -4036);
        fault(TWELVE + ";a1234567", -4036);
        fault(TWELVE + ";q", -1036);
        fault(TWELVE + ";;", -1036);
        fault(TWELVE + ";1", -1036);
        fault(TWELVE + "(", -1036);
        fault(TWELVE + "(k=1)", 0);
        fault(TWELVE + "(k=1);a1", -4041);
        fault("x0.0;x0.0;x0.0;x0.0;x0.0;x0.0;x0.0;x0.0;x0.0;x0.0;x0.0;x0.0", 0);
        fault("x0.0;x0.0;x0.0;x0.0;x0.0;x0.0;x0.0;x0.0;x0.0;x0.0;x0.0;x0.0;x0.0", -4060);
    }

    private static void aSeventhOpenOne() {
        fault("a1((((((k=1))))))", 0);
        fault("a1(((((((k=1)))))))", -5008);
        fault("a1(!!!!!k=1)", 0);
        fault("a1(!!!!!!k=1)", -5008);
        fault("a1([[[[[k]]]]]=1)", 0);
        fault("a1([[[[[[k]]]]]]=1)", -5008);
        fault("a1(k=[[[[[1]]]]])", 0);
        fault("a1(k=[[[[[[1]]]]]])", -5010);
        fault("a1(!(!([k]=1)))", 0);
        fault("a1(!(!(![k]=1)))", -5008);
        fault("a1(!(!([[k]]=1)))", -5008);
        fault("a1(((((([", -5008);
        fault("a1((((((!", -5008);
        fault("a1(((((((", -5008);
        fault("a1((((((k+[", -5010);
        fault("a1((((((&", -1008);
        fault("a1((((((k=(", -1010);
        fault("a1((((((k!(", -1009);
        fault("a1([[[[[(", -1008);
        fault("a1((((((k=1))))));a1((((((k=1))))))", 0);
        fault("a1(((((k=1)))));a1(((((((k=1)))))))", -5024);
        fault("a1(((((k=1)))&(((k=1)))))", 0);
        fault("a1(((((k=1)))&((((k=1))))))", 0);
        fault("a1(((((k=1)))&(((((k=1)))))))", -5018);
    }

    private static void openTillItsPieceEnds() {
        fault("a1(!!!!!k=1&!!!!!k=2|!!!!!k=3)", 0);
        fault("a1(!!!!!k=1&!!!!!!k=2)", -5017);
        fault("a1(!!!!!k=1|!!!!!!k=2)", -5017);
        fault("a1(!!!!!k=[1])", -5010);
        fault("a1(!!!!k=[1]&[[[[[k]]]]]=1)", 0);
        fault("a1(!!!!!k=1);a1(!!!!!k=1)", 0);
        fault("a1(!(k=1)&!(!(k=1)))", 0);
        fault("a1(!(k=1)&!(!(!(k=1))))", -5015);
        fault("a1((!!!!k=1)&!!!!!k=1)", 0);
        fault("a1((!!!!k=1&(((k=1)))))", 0);
        fault("a1((!!!!k=1&!((((k=1))))))", -5016);
        fault("a1(!(!(k=1)&(((k=1)))))", 0);
        fault("a1(!(!(k=1)&((((k=1))))))", -5015);
        fault("a1(!!(k=1&!!k=1)&!!!!!k=1)", 0);
        fault("a1(!!(k=1&!!!k=1)&!!!!!k=1)", -5012);
    }

    private static void theFirstFromTheLeft() {
        fault("q;s12;a1234567", -1000);
        fault("s12;q;a1234567", -3001);
        fault("a1234567;q;s12", -2007);
        fault("a1(((((((;q;s12", -5008);
        fault("a1(k=1234567;s12", -2011);
        fault("a1;s12(((((((", -3004);
        fault("a1;a1(((((((1234567", -5011);
        fault(TWELVE + "234567;s12", -2040);
        fault("s12;" + TWELVE, -3001);
    }

    private static void noLawBehindAFault() {
        for (String text : new String[] {"a1;q", "a1;a1234567", "f1;s12", "f1;" + TWELVE, "f1;a1(((((((k=1)))))))"}) {
            int want = Shelves.law(new OrphanShelf(), 0, text);
            P.due(text + " has a FAULT", want < -1000, true);
            P.isLike("behind " + text, x -> {
                shelf(x);
                x.judge(0, 0, 0);
                Shelves.feed(x, text);
            }, x -> x.law(0, 0, 99999, text.length()), want, x -> {
                shelf(x);
                x.judge(0, 0, 0);
            });
        }
        OrphanShelf x = new OrphanShelf();
        Shelves.works(x, 1);
        Shelves.law(x, 0, "f5(k=1);s12");
        P.due("no LAW", x.count(3), 0);
        P.due("no CLAUSES", x.count(20), NONE);
        P.due("the next one is LAW 0", Shelves.law(x, 0, "f6"), 0);
        P.due("without a condition", x.number(0, 0, 5, 5, 4), 6);
        P.due("one CLAUSE", x.count(20), 1);
    }

    /** What was read of TEXTS with FAULTS is gone: however long they were, and whatever was open in them. */
    private static void manyFaults() {
        OrphanShelf x = new OrphanShelf();
        Shelves.works(x, 1);
        String text = padded("f7(!(!([0", "]>1", 200);
        for (int i = 0; i < 40; i++) {
            P.due("a long FAULT", Shelves.law(x, 0, text), -1200);
        }
        P.due("a seventh that is open", Shelves.law(x, 0, "f5(!(!([[k]]=0)))"), -5008);
        P.due("a LAW with six that are open", Shelves.law(x, 0, "f5(!(!([k]=0)));f6(!(!([k]=1)))"), 0);
        P.due("its conditions", x.number(0, 0, 5, 5, 4), 5);
        P.due("CLAUSES", x.count(20), 2);
    }

    private static void drawnTexts() {
        Random random = new Random(4711);
        TextMaker maker = new TextMaker(random, "ssaltufpwex");
        for (int i = 0; i < 30000; i++) {
            String text = maker.law();
            fault(text, ModelText.fault(text));
            char[] signs = text.toCharArray();
            signs[random.nextInt(signs.length)] = (char) random.nextInt(256);
            fault(new String(signs), ModelText.fault(new String(signs)));
        }
    }
}
