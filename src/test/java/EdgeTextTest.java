/**
 * The sentences of Terms II and of promises 16 to 19 that name a boundary: each has a test of its own, at the
 * boundary and one beyond it on either side. Above each test stands its sentence.
 */
public final class EdgeTextTest {
    private static final Due due = new Due("EdgeTextTest");
    private static final String MILLIARD = "1000*1000*1000";

    public static void main(String[] args) {
        tokens();
        limits();
        numbers();
        faults();
        reckoning();
        laws();
        orders();
        due.end();
    }

    private static void is(String call, long got, long want) {
        due.is(call, got, want);
    }

    /** Two houses, three people; 0 has rights 5 and 3, 1 has 4 to house 1; mood 4, year 12. */
    private static BellHeirs small() {
        BellHeirs x = new BellHeirs();
        x.house(0, 5);
        x.house(7, 9);
        x.person(0, 40, 50);
        x.person(1, 30, 20);
        x.person(6, 20, 7);
        x.right(0, 0, 5);
        x.right(0, 1, 3);
        x.right(1, 1, 4);
        x.terms(0, 12);
        x.terms(2, 4);
        return x;
    }

    private static BellHeirs under(String text) {
        BellHeirs x = small();
        is("16 " + text, Due.law(x, text), 0);
        x.force(0);
        return x;
    }

    private static void fine(String text) {
        BellHeirs x = new BellHeirs();
        is("16 " + text, Due.law(x, text), 0);
        is("18 " + text, x.fault(), -1);
        is("16 the tape is empty then", x.count(6), 0);
        is("41 one law", x.count(4), 1);
        is("42 " + text, x.status(), 0);
    }

    private static void faultAt(String text, int place) {
        BellHeirs x = new BellHeirs();
        is("16 " + text, Due.law(x, text), -6);
        is("18 " + text, x.fault(), place);
        is("16 the tape is empty then", x.count(6), 0);
        is("41 no law", x.count(4), 0);
        is("42 " + text, x.status(), -6);
    }

    private static void fineOrders(String text) {
        BellHeirs x = small();
        int answer = Due.orders(x, text);
        is("17 " + text, answer >= 0 || answer == -3 ? 1 : 0, 1);
        is("18 " + text, x.fault(), -1);
        is("17 the tape is empty then", x.count(6), 0);
    }

    private static void ordersFaultAt(String text, int place) {
        BellHeirs x = small();
        is("17 " + text, Due.orders(x, text), -6);
        is("18 " + text, x.fault(), place);
        is("17 the tape is empty then", x.count(6), 0);
        is("42 " + text, x.status(), -6);
        is("19 " + text, x.stopped(), -1);
    }

    private static void broken(String sum, boolean so) {
        is("broken " + sum, under("opens if 0*[" + sum + "]=0").has(0, 1, 3), so ? 0 : 1);
        is("broken, its SUM " + sum, under("tires 3;tires 0*[" + sum + "]").has(0, 1, 4), so ? 3 : 0);
        is("broken in ORDERS " + sum, Due.orders(small(), "ring 0*[" + sum + "] at 0"), so ? -3 : 1);
    }

    private static void same(String one, String other) {
        is(one + " = " + other, under("opens if " + one + "=" + other).has(0, 1, 3), 1);
    }

    // ---------------------------------------------------------------- TOKENS

    private static void tokens() {
        everyByteBehindAWord();
        everyByteBehindANumber();
        everyByteInATest();
        longestRows();
        blanksBetween();
        wholeTape();
        behindTheEnd();
    }

    private static boolean isLetter(int b) {
        return b >= 97 && b <= 122;
    }

    private static boolean isDigit(int b) {
        return b >= 48 && b <= 57;
    }

    /** longest rows of letters a .. z, of digits, single other bytes, any blanks (32) between: of all bytes. */
    private static void everyByteBehindAWord() {
        for (int b = 0; b < 256; b++) {
            String text = "tires" + (char) b + "1";
            if (b == 32 || isDigit(b)) {
                fine(text);
            } else {
                faultAt(text, isLetter(b) ? 0 : b == '[' ? 7 : 5);
            }
        }
    }

    private static void everyByteBehindANumber() {
        for (int b = 0; b < 256; b++) {
            String text = "tires 1" + (char) b + "1";
            if (isDigit(b) || "+-*/%".indexOf(b) >= 0) {
                fine(text);
            } else {
                faultAt(text, b == 32 || b == ';' ? 8 : 7);
            }
        }
    }

    private static void everyByteInATest() {
        for (int b = 0; b < 256; b++) {
            String text = "bars if 1" + (char) b + "1";
            if ("<>=".indexOf(b) >= 0) {
                fine(text);
            } else if (isDigit(b) || "+-*/%".indexOf(b) >= 0) {
                faultAt(text, 11);
            } else {
                faultAt(text, b == 32 ? 10 : 9);
            }
        }
    }

    /** longest rows: neither shorter nor longer ones. */
    private static void longestRows() {
        faultAt("barsif 1=1", 0);
        faultAt("bar s", 0);
        faultAt("bars ifnot 1=1", 5);
        faultAt("bars if notnot 1=1", 8);
        faultAt("bars if 1=1 an d 1=1", 12);
        faultAt("bars if 1=1 andnot 1=1", 12);
        faultAt("tires ages", 6);
        faultAt("tires ag", 6);
        faultAt("tires a ge", 6);
        faultAt("tires 1 0", 8);
        faultAt("bars if 1==1", 10);
        faultAt("bars if 1<=1", 10);
        faultAt("bars;;bars", 5);
        fine("bars if1=1");
        fine("tires10if10=10and not10=10or(10=10)");
        fine("tires[10]if[10]=[10]");
        is("10 is one number", under("tires 10").has(0, 0, 4), 10);
        is("1 and 0 by a sign", under("tires 1+0").has(0, 0, 4), 1);
    }

    /** any blanks (32) between, ahead and behind. */
    private static void blanksBetween() {
        fine("   bars   if   (   1   =   1   )   ;   tires   [   age   ]   ");
        faultAt("    ", 4);
        faultAt("   what", 3);
        faultAt("bars   what", 7);
        faultAt("bars if   ", 10);
        faultAt("bars ;   ", 9);
        faultAt("\tbars", 0);
        faultAt("bars\n", 4);
        faultAt("bars\u0000", 4);
        faultAt("bars\u00a0", 4);
    }

    /** on a TAPE of at most 400 bytes: TEXTS that fill it. */
    private static void wholeTape() {
        fine("bars" + " ".repeat(396));
        fine(" ".repeat(396) + "bars");
        fine(" ".repeat(395) + "bars");
        faultAt(" ".repeat(400), 400);
        faultAt(" ".repeat(399), 399);
        faultAt(" ".repeat(397) + "bar", 397);
        faultAt("tires" + " ".repeat(395), 400);
        faultAt("tires" + " ".repeat(394), 399);
        faultAt("tires" + "1".repeat(395), 5);
        faultAt("a".repeat(400), 0);
        fine("tires " + "0".repeat(393) + "1");
        fine("bars if " + "not ".repeat(97) + "1=1 ");
        faultAt("bars if " + "not ".repeat(98), 400);
        fineOrders("pass" + " ".repeat(396));
        ordersFaultAt("die" + " ".repeat(397), 400);
    }

    /** What end() has cut, and what an earlier TEXT had, is not read. */
    private static void behindTheEnd() {
        BellHeirs x = small();
        Due.put(x, "tires 12;what");
        x.end(7);
        is("16 cut within a number", x.law(), 0);
        x.force(0);
        is("16 cut within a number", x.has(0, 0, 4), 1);
        Due.put(x, "bars if 1=1");
        x.end(10);
        is("16 cut", x.law(), -6);
        is("18 cut", x.fault(), 10);
        Due.put(x, "bars");
        x.end(3);
        is("16 cut within a word", x.law(), -6);
        is("18 cut within a word", x.fault(), 0);
        Due.put(x, "bars");
        x.end(0);
        is("16 empty", x.law(), -6);
        is("18 empty", x.fault(), 0);
    }

    // ---------------------------------------------------------------- how many there are at most

    private static void limits() {
        twelveClauses();
        fiftyParts();
        fiftyPartsOfAllClauses();
        fiftyPartsOfOrders();
        whatIsNoPart();
        eightSquareBrackets();
        eightRoundBrackets();
        eightBracketsOfBothKinds();
        eightBracketsOfEachSum();
        bracketsBesideOneAnother();
        sixLaws();
        eachTextAnew();
    }

    /** CLAUSE {";" CLAUSE}, 12 at most (FAULT at the 13th's first TOKEN). */
    private static void twelveClauses() {
        fine("bars;".repeat(10) + "bars");
        fine("bars;".repeat(11) + "bars");
        faultAt("bars;".repeat(12) + "bars", 60);
        faultAt("bars;".repeat(12) + "   bars", 63);
        faultAt("bars;".repeat(12) + "what", 60);
        faultAt("bars;".repeat(12), 60);
        faultAt("bars;".repeat(12) + "  ", 62);
        faultAt("bars;".repeat(12) + ";", 60);
        faultAt("bars;".repeat(11) + "bars what", 60);
        faultAt("bars;".repeat(11) + "bars if", 62);
        faultAt("bars;".repeat(11), 55);
        BellHeirs x = under("tires 1;".repeat(11) + "tires 7");
        is("the twelfth is a CLAUSE", x.has(0, 0, 4), 7);
        fineOrders("pass;".repeat(11) + "pass");
        ordersFaultAt("pass;".repeat(12) + "pass", 60);
        ordersFaultAt("pass;".repeat(12) + " die", 61);
        is("twelve CLAUSES", Due.orders(small(), "pass;".repeat(11) + "pass"), 12);
        is("twelve CLAUSES, twenty times", Due.orders(small(), "pass times 20;".repeat(11) + "pass times 20"), 240);
    }

    /** 50 PARTS that are NUMBERS and words (FAULT at the 51st). */
    private static void fiftyParts() {
        fine("tires " + "1+".repeat(48) + "1");
        fine("tires " + "1+".repeat(49) + "1");
        faultAt("tires " + "1+".repeat(50) + "1", 106);
        faultAt("tires " + "1+".repeat(50) + "age", 106);
        faultAt("tires " + "1+".repeat(50) + "1001", 106);
        faultAt("tires " + "1+".repeat(50) + "what", 106);
        faultAt("tires " + "1+".repeat(50), 106);
        faultAt("tires " + "1+".repeat(50) + "  1", 108);
        faultAt("tires " + "1+".repeat(50) + "[1]", 107);
        faultAt("tires " + "1+".repeat(50) + "[[1", 108);
        fine("tires " + "to+".repeat(49) + "to");
        faultAt("tires " + "to+".repeat(50) + "to", 156);
        fine("bars if " + "to=1 or ".repeat(24) + "to=1");
        faultAt("bars if " + "to=1 or ".repeat(25) + "to=1", 208);
        faultAt("bars if " + "to=1 or ".repeat(25) + "not (to=1)", 213);
        is("fifty are added", under("tires " + "1-1+".repeat(24) + "1+9").has(0, 0, 4), 10);
    }

    /** of the whole TEXT. */
    private static void fiftyPartsOfAllClauses() {
        String half = "tires " + "1+".repeat(24) + "1";
        fine(half + ";" + half);
        fine(half + ";" + half + ";bars;opens");
        faultAt(half + ";" + half + ";costs 1", 55 + 1 + 55 + 1 + 6);
        faultAt(half + ";" + half + ";bars if 1=1", 55 + 1 + 55 + 1 + 8);
        faultAt(half + ";" + half + " if age=1", 55 + 1 + 55 + 4);
    }

    /** P, H, TIMES aside, NUMBERS and words count as PARTS. */
    private static void fiftyPartsOfOrders() {
        fineOrders("die " + "1+".repeat(49) + "1");
        ordersFaultAt("die " + "1+".repeat(50) + "1", 104);
        fineOrders("die " + "left 1+".repeat(49) + "left 1");
        ordersFaultAt("die " + "left 1+".repeat(50) + "left 1", 354);
        ordersFaultAt("die " + "left 1+".repeat(50) + "left 9", 354);
        fineOrders("pass times 3;die " + "weary 0+".repeat(40) + "1+".repeat(9) + "1 times 20");
        ordersFaultAt("pass times 3;die " + "weary 0+".repeat(40) + "1+".repeat(10) + "1 times 20", 17 + 320 + 20);
        fineOrders("ring " + "1+".repeat(24) + "1 at " + "1+".repeat(23) + "1+1");
        ordersFaultAt("ring " + "1+".repeat(24) + "1 at " + "1+".repeat(25) + "1", 5 + 49 + 4 + 50);
        fineOrders("pass times 1;pass times 2;pass times 3 if " + "1=1 and ".repeat(24) + "done=3");
        ordersFaultAt("pass times 1;pass times 2;pass times 3 if " + "1=1 and ".repeat(24) + "done=3 or 1=1",
            42 + 192 + 10);
    }

    /** Signs, brackets and the words between are no PARTS: a TEXT of 50 with as many as there is room for. */
    private static void whatIsNoPart() {
        fine("bars if " + "not ".repeat(30) + "[1]=[1]" + " and [1]=[1]".repeat(20));
        fine("bars if " + "(1=1)or".repeat(24) + "(1=1);bars;opens");
    }

    /** 8 brackets of both kinds within one another (FAULT at the 9th) at most. */
    private static void eightSquareBrackets() {
        fine("tires " + "[".repeat(7) + "1" + "]".repeat(7));
        fine("tires " + "[".repeat(8) + "1" + "]".repeat(8));
        faultAt("tires " + "[".repeat(9) + "1" + "]".repeat(9), 14);
        faultAt("tires " + "[".repeat(10) + "1" + "]".repeat(10), 14);
        faultAt("tires " + "[".repeat(8) + "  [1", 16);
        faultAt("tires " + "[".repeat(8) + "1" + "]".repeat(7), 22);
        faultAt("tires " + "[".repeat(8) + "1" + "]".repeat(9), 23);
        is("eight are reckoned", under("tires " + "[1+".repeat(8) + "1" + "]".repeat(8)).has(0, 0, 4), 9);
        fineOrders("die " + "[".repeat(8) + "1" + "]".repeat(8));
        ordersFaultAt("die " + "[".repeat(9) + "1" + "]".repeat(9), 12);
    }

    private static void eightRoundBrackets() {
        fine("bars if " + "(".repeat(7) + "1=1" + ")".repeat(7));
        fine("bars if " + "(".repeat(8) + "1=1" + ")".repeat(8));
        faultAt("bars if " + "(".repeat(9) + "1=1" + ")".repeat(9), 16);
        faultAt("bars if " + "(".repeat(8) + "not (1=1", 20);
        fine("bars if " + "(not ".repeat(8) + "1=1" + ")".repeat(8));
        faultAt("bars if " + "(".repeat(8) + "1=1" + ")".repeat(7), 26);
        faultAt("bars if " + "(".repeat(8) + "1=1" + ")".repeat(9), 27);
        is("eight are asked", under("opens if " + "(not ".repeat(8) + "1=1" + ")".repeat(8)).has(0, 0, 3), 1);
        is("seven are asked", under("opens if " + "(not ".repeat(7) + "1=1" + ")".repeat(7)).has(0, 0, 3), 0);
        fineOrders("pass if " + "(".repeat(8) + "1=1" + ")".repeat(8));
        ordersFaultAt("pass if " + "(".repeat(9) + "1=1" + ")".repeat(9), 16);
    }

    private static void eightBracketsOfBothKinds() {
        for (int round = 0; round <= 8; round++) {
            String open = "bars if " + "(".repeat(round) + "[".repeat(8 - round);
            String close = "]".repeat(8 - round) + "=1" + ")".repeat(round);
            fine(open + "1" + close);
            faultAt(open + "[1]" + close, 16);
            String behind = "bars if " + "(".repeat(round) + "1=" + "[".repeat(8 - round);
            fine(behind + "1" + "]".repeat(8 - round) + ")".repeat(round));
            faultAt(behind + "[1]" + "]".repeat(8 - round) + ")".repeat(round), 18);
        }
    }

    /** Each SUM of a CLAUSE begins without brackets. */
    private static void eightBracketsOfEachSum() {
        String eight = "[[[[[[[[1]]]]]]]]";
        String nine = "[[[[[[[[[1]]]]]]]]]";
        String[] laws = {"tires #", "costs #", "worth #", "bars if #=1", "bars if 1<#", "bars if 1=1 and #>1",
            "bars if 1=1 or #>1", "bars if not #>1", "tires 1+#", "tires 1*#"};
        for (String law : laws) {
            fine(law.replace("#", eight));
            faultAt(law.replace("#", nine), law.indexOf('#') + 8);
        }
        String[] orders = {"ring # at 0", "ring 0 at #", "sell # to 1 of 0", "sell 0 to # of 0", "sell 0 to 1 of #",
            "die #", "pass if #=1", "pass if 1=#", "pass times 2 if 1=#"};
        for (String text : orders) {
            fineOrders(text.replace("#", eight));
            ordersFaultAt(text.replace("#", nine), text.indexOf('#') + 8);
        }
    }

    /** within one another: those beside one another are not counted together. */
    private static void bracketsBesideOneAnother() {
        fine("tires " + "[1]+".repeat(20) + "[1]");
        fine("bars if " + "(1=1) and ".repeat(20) + "(1=1)");
        fine("tires " + "[[[[[[[[1]]]]]]]]+".repeat(5) + "[[[[[[[[1]]]]]]]]");
        faultAt("tires [[[[[[[[1]]]]]]]]+[[[[[[[[[1]]]]]]]]]", 32);
        fine("bars if ((((((((1=1)))))))) and [[[[[[[[1]]]]]]]]=1");
        fine("bars if ((((((((1=1))))))));bars if ((((((((1=1))))))))");
        faultAt("bars if [1=1]", 10);
        faultAt("bars if (1)=1", 10);
        faultAt("bars if (1=1]", 12);
        faultAt("tires [1)", 8);
        faultAt("tires []", 7);
        faultAt("bars if ()", 9);
    }

    /** LAWS, 6 at most; promise 16: -5 (ahead of reading it; the TAPE is empty then, too). */
    private static void sixLaws() {
        BellHeirs x = small();
        for (int i = 0; i < 6; i++) {
            is("41 laws", x.count(4), i);
            is("16", Due.law(x, "tires " + i), i);
        }
        Due.orders(x, "die what");
        is("18", x.fault(), 4);
        is("16 seventh", Due.law(x, "tires 7"), -5);
        is("16 the tape is empty then", x.count(6), 0);
        is("18 it was not read", x.fault(), 4);
        is("42 seventh", x.status(), -5);
        is("16 ahead of reading it", Due.law(x, "what"), -5);
        is("16 the tape is empty then", x.count(6), 0);
        is("16 ahead of reading it", x.law(), -5);
        is("18 it was not read", x.fault(), 4);
        is("41 six", x.count(4), 6);
        is("41 by -5", x.count(10), 3);
        is("41 by -6", x.count(11), 1);
        x.force(5);
        is("the sixth stays", x.has(0, 0, 4), 5);
        BellHeirs y = small();
        is("16 one that can't be takes no room", Due.law(y, "what"), -6);
        is("16 one that can't be takes no room", Due.law(y, "bars"), 0);
    }

    /** What is counted is counted in each TEXT anew, behind one that could not be, too. */
    private static void eachTextAnew() {
        BellHeirs x = small();
        String parts = "pass if " + "1=1 and ".repeat(24) + "1=1";
        String clauses = "pass;".repeat(11) + "pass";
        String brackets = "pass if ((((([[[1]]]=1)))))";
        for (int i = 0; i < 15; i++) {
            is("17 fifty parts again", Due.orders(x, parts), 1);
            is("17 twelve clauses again", Due.orders(x, clauses), 12);
            is("17 eight brackets again", Due.orders(x, brackets), 1);
            is("17 fifty-one parts again", Due.orders(x, parts + " and 1=1"), -6);
            is("17 nine brackets again", Due.orders(x, "pass if (((((((((1=1)))))))))"), -6);
        }
        is("16 fifty parts again", Due.law(x, "tires " + "1-1+".repeat(24) + "1+9"), 0);
        is("16 fifty parts again", Due.law(x, "tires " + "1-1+".repeat(24) + "1+8"), 1);
        x.force(0);
        is("16 each its own", x.has(0, 0, 4), 10);
        x.force(1);
        is("16 each its own", x.has(0, 0, 4), 9);
    }

    // ---------------------------------------------------------------- NUMBERS

    private static void numbers() {
        numbersToThousand();
        timesOneToTwenty();
        peopleInOrders();
        housesInOrders();
    }

    /** NUMBER (to 1,000). */
    private static void numbersToThousand() {
        fine("tires 0");
        fine("tires 999");
        fine("tires 1000");
        faultAt("tires 1001", 6);
        faultAt("tires 1+1001", 8);
        faultAt("tires 9999", 6);
        faultAt("tires 10000", 6);
        fine("tires 01000");
        faultAt("tires 01001", 6);
        // These would be small, if they wrapped around at 2^32 or 2^64.
        faultAt("tires 4294967296", 6);
        faultAt("tires 4294967297", 6);
        faultAt("tires 18446744073709551616", 6);
        faultAt("tires 18446744073709551617", 6);
        faultAt("tires 2147483648", 6);
        faultAt("tires -1", 6);
        same("1000", "999+1");
        same("0", "00");
        is("noughts ahead", under("tires 0000000000000000000013").has(0, 0, 4), 13);
        ordersFaultAt("die 1001", 4);
        fineOrders("die 1000");
    }

    /** TIMES: a NUMBER 1 .. 20. */
    private static void timesOneToTwenty() {
        ordersFaultAt("pass times 0", 11);
        is("times 1", Due.orders(small(), "pass times 1"), 1);
        is("times 2", Due.orders(small(), "pass times 2"), 2);
        is("times 19", Due.orders(small(), "pass times 19"), 19);
        is("times 20", Due.orders(small(), "pass times 20"), 20);
        ordersFaultAt("pass times 21", 11);
        ordersFaultAt("pass times 1000", 11);
        ordersFaultAt("pass times 4294967297", 11);
        ordersFaultAt("pass times -1", 11);
        ordersFaultAt("pass times [1]", 11);
        ordersFaultAt("pass times 1+1", 12);
        ordersFaultAt("pass times", 10);
        ordersFaultAt("pass times if 1=1", 11);
        ordersFaultAt("pass if 1=1 times 2", 12);
        is("once without", Due.orders(small(), "pass"), 1);
        faultAt("tires 1 times 2", 8);
    }

    /** P: a NUMBER 0 .. 7; purse, left: -1 without such a one. */
    private static void peopleInOrders() {
        for (int p = 0; p <= 7; p++) {
            int purse = p == 0 ? 50 : p == 1 ? 20 : p == 2 ? 7 : -1;
            int left = p == 0 ? 8 : p == 1 ? 4 : p == 2 ? 0 : -1;
            is("purse " + p, Due.orders(small(), "pass if purse " + p + "=" + number(purse)), 1);
            is("left " + p, Due.orders(small(), "pass if left " + p + "=" + number(left)), 1);
        }
        ordersFaultAt("pass if purse 8=1", 14);
        ordersFaultAt("pass if left 8=1", 13);
        ordersFaultAt("pass if purse 4294967296=1", 14);
        ordersFaultAt("pass if purse=1", 13);
        ordersFaultAt("pass if left [0]=1", 13);
        ordersFaultAt("pass if purse -1=1", 14);
        ordersFaultAt("pass if purse left=1", 14);
        ordersFaultAt("pass if year 0=1", 13);
        ordersFaultAt("pass if done 0=1", 13);
        ordersFaultAt("pass if living 0=1", 15);
        ordersFaultAt("die purse", 9);
        ordersFaultAt("die purse 1 2", 12);
    }

    /** H: 0 .. 5; weary: -1 without such a one. */
    private static void housesInOrders() {
        for (int h = 0; h <= 5; h++) {
            BellHeirs x = small();
            x.ring(0, 1);
            int weary = h == 0 ? 0 : h == 1 ? 1 : -1;
            is("weary " + h, Due.orders(x, "pass if weary " + h + "=" + number(weary)), 1);
        }
        ordersFaultAt("pass if weary 6=1", 14);
        ordersFaultAt("pass if weary 7=1", 14);
        ordersFaultAt("pass if weary=1", 13);
        ordersFaultAt("die weary", 9);
    }

    private static String number(int value) {
        return value < 0 ? "0-" + -value : "" + value;
    }

    // ---------------------------------------------------------------- FAULTS

    private static void faults() {
        emptyTexts();
        clausesOfLaws();
        clausesOfOrders();
        testsAndSums();
        wordsOfTheOtherLanguage();
        faultOfTheLatest();
    }

    /** -6 (blanks alone: FAULT at the end). */
    private static void emptyTexts() {
        faultAt("", 0);
        faultAt(" ", 1);
        faultAt("  ", 2);
        ordersFaultAt("", 0);
        ordersFaultAt(" ", 1);
        ordersFaultAt("  ", 2);
        faultAt(";", 0);
        ordersFaultAt(";", 0);
    }

    /** CLAUSE: (("tires" | "costs" | "worth") SUM | "opens" | "bars") ["if" TEST]. */
    private static void clausesOfLaws() {
        String[] withSum = {"tires", "costs", "worth"};
        for (String word : withSum) {
            fine(word + " 1");
            fine(word + " 1 if 1=1");
            faultAt(word, 5);
            faultAt(word + " if 1=1", 6);
            faultAt(word + " 1 2", 8);
            faultAt(word + " 1 if", 10);
            faultAt(word + " 1 1=1", 8);
            faultAt(word + ";bars", 5);
        }
        fine("opens");
        fine("opens if 1=1");
        faultAt("opens 1", 6);
        faultAt("opens if", 8);
        faultAt("opens 1=1", 6);
        fine("bars");
        fine("bars if 1=1");
        faultAt("bars 1", 5);
        faultAt("bars if", 7);
        faultAt("bars if 1=1 if 1=1", 12);
        faultAt("if 1=1", 0);
        faultAt("1", 0);
        faultAt("bars;", 5);
        faultAt("bars; ", 6);
        faultAt("bars,bars", 4);
        faultAt("bars bars", 5);
    }

    /** CLAUSE: ("ring" SUM "at" SUM | "sell" SUM "to" SUM "of" SUM | "die" SUM | "pass") ["times" TIMES] ["if" TEST]. */
    private static void clausesOfOrders() {
        fineOrders("ring 0 at 0 times 2 if 1=1");
        fineOrders("sell 0 to 1 of 0 times 2 if 1=1");
        fineOrders("die 0 times 2 if 1=1");
        fineOrders("pass times 2 if 1=1");
        ordersFaultAt("ring", 4);
        ordersFaultAt("ring at 0", 5);
        ordersFaultAt("ring 0", 6);
        ordersFaultAt("ring 0 of 0", 7);
        ordersFaultAt("ring 0 to 0", 7);
        ordersFaultAt("ring 0 times 2", 7);
        ordersFaultAt("ring 0 at", 9);
        ordersFaultAt("ring 0 at if", 10);
        ordersFaultAt("ring 0 at 0 at", 12);
        ordersFaultAt("ring 0 at 0 of 0", 12);
        ordersFaultAt("sell", 4);
        ordersFaultAt("sell to 1", 5);
        ordersFaultAt("sell 0 of 0", 7);
        ordersFaultAt("sell 0 at 0", 7);
        ordersFaultAt("sell 0 to", 9);
        ordersFaultAt("sell 0 to of", 10);
        ordersFaultAt("sell 0 to 1", 11);
        ordersFaultAt("sell 0 to 1 if 1=1", 12);
        ordersFaultAt("sell 0 to 1 at 0", 12);
        ordersFaultAt("sell 0 to 1 of", 14);
        ordersFaultAt("sell 0 to 1 of 0 0", 17);
        ordersFaultAt("die", 3);
        ordersFaultAt("die if 1=1", 4);
        ordersFaultAt("die 0 0", 6);
        ordersFaultAt("pass 0", 5);
        ordersFaultAt("pass if", 7);
        ordersFaultAt("pass if 1=1 if 1=1", 12);
        ordersFaultAt("pass times 2 times 2", 13);
        ordersFaultAt("pass;", 5);
    }

    /** TEST, BOTH, PLAIN, SUM, TERM, PART: what can't go on there. */
    private static void testsAndSums() {
        faultAt("bars if not", 11);
        faultAt("bars if or", 8);
        faultAt("bars if 1=1 or", 14);
        faultAt("bars if 1=1 or or", 15);
        faultAt("bars if 1=1 and", 15);
        faultAt("bars if 1=1 and or", 16);
        faultAt("bars if 1=1 not 1=1", 12);
        faultAt("bars if 1", 9);
        faultAt("bars if 1 and 1=1", 10);
        faultAt("bars if 1=", 10);
        faultAt("bars if 1= ", 11);
        faultAt("bars if =1", 8);
        faultAt("bars if 1=1=1", 11);
        faultAt("bars if 1<2<3", 11);
        faultAt("bars if 1=not 1", 10);
        faultAt("bars if 1=(1)", 10);
        faultAt("bars if (1=1", 12);
        faultAt("bars if 1=1)", 11);
        faultAt("tires 1+", 8);
        faultAt("tires +1", 6);
        faultAt("tires 1+-1", 8);
        faultAt("tires 1**1", 8);
        faultAt("tires 1*", 8);
        faultAt("tires 1/", 8);
        faultAt("tires 1%", 8);
        faultAt("tires 1-", 8);
        faultAt("tires [1", 8);
        faultAt("tires 1]", 7);
        faultAt("tires (1)", 6);
        faultAt("tires 1=1", 7);
        faultAt("tires 1 age", 8);
        faultAt("tires age 1", 10);
        faultAt("tires age age", 10);
    }

    /** Words: of the one language alone. */
    private static void wordsOfTheOtherLanguage() {
        String[] ofLaws = {"person", "age", "purse", "house", "weary", "left", "year", "to", "mood"};
        for (String word : ofLaws) {
            fine("tires " + word);
            fine("bars if " + word + "=" + word);
            faultAt("tires " + word + "x", 6);
            faultAt("tires " + word.substring(1), 6);
        }
        String[] notOfLaws = {"done", "latest", "living", "tires", "if", "not", "or", "and", "at", "of", "times", "none"};
        for (String word : notOfLaws) {
            faultAt("tires " + word, 6);
        }
        String[] ofOrders = {"year", "done", "latest", "living", "purse 0", "left 0", "weary 0"};
        for (String word : ofOrders) {
            fineOrders("die " + word);
            ordersFaultAt("die x" + word, 4);
        }
        String[] notOfOrders = {"person", "age", "house", "to", "mood", "ring", "at", "if", "not", "times"};
        for (String word : notOfOrders) {
            ordersFaultAt("die " + word, 4);
        }
        ordersFaultAt("tires 1", 0);
        ordersFaultAt("opens", 0);
        faultAt("pass", 0);
        faultAt("ring 0 at 0", 0);
    }

    /** Promise 18: FAULT of the latest law(), orders() that read a TEXT: its place; NONE without. */
    private static void faultOfTheLatest() {
        BellHeirs x = small();
        is("18 ahead of any", x.fault(), -1);
        Due.law(x, "tires");
        is("18 of a law", x.fault(), 5);
        x.row();
        x.ring(9, 9);
        is("18 stays", x.fault(), 5);
        Due.orders(x, "die");
        is("18 of orders", x.fault(), 3);
        Due.law(x, "bars");
        is("18 without", x.fault(), -1);
        Due.orders(x, "die");
        Due.orders(x, "die 9");
        is("18 without, though they could not be", x.fault(), -1);
        Due.law(x, "");
        is("18 of an empty tape", x.fault(), 0);
        Due.orders(x, "pass");
        is("18 without", x.fault(), -1);
    }

    // ---------------------------------------------------------------- SUMS and TESTS

    private static void reckoning() {
        beyondAMilliard();
        dividedByNought();
        cutTowardsNought();
        signsInTheirOrder();
        onlyIfItCanStillMatter();
    }

    /** Beyond 1,000,000,000 either way a SUM is BROKEN. */
    private static void beyondAMilliard() {
        broken(MILLIARD, false);
        broken(MILLIARD + "-1", false);
        broken(MILLIARD + "+0", false);
        broken(MILLIARD + "+1", true);
        broken("1+" + MILLIARD, true);
        broken("1000*1000*999+1000*1000", false);
        broken("1000*1000*999+1000*1000+1", true);
        broken("0-" + MILLIARD, false);
        broken("0-" + MILLIARD + "+1", false);
        broken("0-" + MILLIARD + "-0", false);
        broken("0-" + MILLIARD + "-1", true);
        broken("[0-1]-" + MILLIARD, true);
        broken("[0-1000]*1000*1000", false);
        broken("[0-1000]*1000*1000-1", true);
        broken("[0-1000]*1000*[1000+1]", true);
        broken("1000*1000*[1000+1]", true);
        broken(MILLIARD + "*2", true);
        broken(MILLIARD + "*1", false);
        broken(MILLIARD + "*[0-1]", false);
        broken("[0-" + MILLIARD + "]*[0-1]", false);
        broken("[0-" + MILLIARD + "]*[0-2]", true);
        // These would be small, if they wrapped around at 2^32.
        broken("[1000*1000*4+1000*294+967]*1000+296", true);
        broken("[256*256]*[256*256]", true);
        broken("[256*256]*[256*256]+7", true);
        broken("[256*256]*[256*128]", true);
        broken(MILLIARD + "*[" + MILLIARD + "]", true);
        // What comes behind does not mend it.
        broken(MILLIARD + "+1-1", true);
        broken(MILLIARD + "*2/2", true);
        broken("[" + MILLIARD + "+1]*0", true);
        same(MILLIARD, "1000*[1000*1000]");
        same("0-" + MILLIARD, "[0-1]*" + MILLIARD);
    }

    /** or divided by 0. */
    private static void dividedByNought() {
        broken("1/0", true);
        broken("1%0", true);
        broken("0/0", true);
        broken("0%0", true);
        broken("[0-1]/0", true);
        broken("1/1", false);
        broken("1%1", false);
        broken("0/1", false);
        broken("1/[0-1]", false);
        broken("1%[0-1]", false);
        broken("1/[1-1]", true);
        broken("1%[year-12]", true);
        broken("0*[1/0]", true);
        broken("[1/0]-[1/0]", true);
    }

    /** (/ cut towards 0, % what is left then). */
    private static void cutTowardsNought() {
        for (int a = -7; a <= 7; a++) {
            for (int b = -4; b <= 4; b++) {
                if (b != 0) {
                    int sign = (a < 0) == (b < 0) ? 1 : -1;
                    int whole = 0;
                    while ((whole + 1) * Math.abs(b) <= Math.abs(a)) {
                        whole++;
                    }
                    int cut = sign * whole;
                    same("[" + number(a) + "]/[" + number(b) + "]", "[" + number(cut) + "]");
                    same("[" + number(a) + "]%[" + number(b) + "]", "[" + number(a - cut * b) + "]");
                }
            }
        }
        same("[0-" + MILLIARD + "]/[0-1]", MILLIARD);
        same("[0-" + MILLIARD + "]%[0-1]", "0");
        same("999/1000", "0");
        same("[0-999]/1000", "0");
        same("[0-999]%1000", "0-999");
    }

    /** SUM: TERM {("+" | "-") TERM}. TERM: PART {("*" | "/" | "%") PART}: from the left, TERMS ahead. */
    private static void signsInTheirOrder() {
        same("10-4-3", "3");
        same("10-[4-3]", "9");
        same("100/10/5", "2");
        same("100/[10/5]", "50");
        same("7*5%4", "3");
        same("7*[5%4]", "7");
        same("7%5*4", "8");
        same("9/2*2", "8");
        same("2+3*4-1", "13");
        same("2*3+4*5", "26");
        same("20-6/4", "19");
        same("20-7%4", "17");
    }

    /** "or", "and" ask what stands behind only if it can still matter: all of three so, not so, BROKEN. */
    private static void onlyIfItCanStillMatter() {
        String[] tests = {"1=2", "1=1", "1/0=1"};
        String[] ways = {"or", "and"};
        for (int a = 0; a < 3; a++) {
            asked(tests[a], a);
            asked("not " + tests[a], a == 2 ? 2 : 1 - a);
            for (int b = 0; b < 3; b++) {
                asked(tests[a] + " or " + tests[b], or(a, b));
                asked(tests[a] + " and " + tests[b], and(a, b));
                asked("not " + tests[a] + " and not " + tests[b], and(a == 2 ? 2 : 1 - a, b == 2 ? 2 : 1 - b));
                for (int c = 0; c < 3; c++) {
                    for (int way = 0; way < 4; way++) {
                        boolean firstOr = way % 2 == 0;
                        boolean secondOr = way / 2 == 0;
                        String text = tests[a] + " " + ways[firstOr ? 0 : 1] + " " + tests[b] + " "
                            + ways[secondOr ? 0 : 1] + " " + tests[c];
                        int value = !firstOr ? secondOr ? or(and(a, b), c) : and(and(a, b), c)
                            : secondOr ? or(or(a, b), c) : or(a, and(b, c));
                        asked(text, value);
                    }
                    asked("(" + tests[a] + " or " + tests[b] + ") and " + tests[c], and(or(a, b), c));
                    asked(tests[a] + " and (" + tests[b] + " or " + tests[c] + ")", and(a, or(b, c)));
                }
            }
        }
        asked("1<1", 0);
        asked("1<2", 1);
        asked("2<1", 0);
        asked("1>1", 0);
        asked("2>1", 1);
        asked("1>2", 0);
        asked("1=1", 1);
        asked("1=0", 0);
        asked("1=2", 0);
        asked("0-1<0", 1);
    }

    /** 0: not so, 1: so, 2: BROKEN. */
    private static int or(int a, int b) {
        return a == 0 ? b : a;
    }

    private static int and(int a, int b) {
        return a == 1 ? b : a;
    }

    private static void asked(String test, int value) {
        is("is " + test, under("opens if " + test).has(0, 1, 3), value == 1 ? 1 : 0);
        is("is not (" + test + ")", under("opens if not (" + test + ")").has(0, 1, 3), value == 0 ? 1 : 0);
        is("orders if " + test, Due.orders(small(), "pass if " + test), value == 1 ? 1 : 0);
    }

    // ---------------------------------------------------------------- LAWS

    private static void laws() {
        tiresRange();
        costsRange();
        worthRange();
        theLastThatHolds();
        withoutWhatHolds();
        opensBelowTen();
        opensByClauses();
        barredByClauses();
        wordsOfLaws();
        wordsThatAreNot();
    }

    /** TIRES a HOUSE 0 .. 20 (else the nearest). */
    private static void tiresRange() {
        String[] sums = {"0-" + MILLIARD, "0-21", "0-1", "0", "1", "19", "20", "21", "1000", MILLIARD};
        int[] told = {0, 0, 0, 0, 1, 19, 20, 20, 20, 20};
        for (int i = 0; i < sums.length; i++) {
            BellHeirs x = under("tires " + sums[i]);
            is("tires " + sums[i], x.has(0, 0, 4), told[i]);
            x.ring(0, 0);
            is("weary by " + sums[i], x.at(0, 2), told[i]);
        }
    }

    /** it COSTS 0 .. 999. */
    private static void costsRange() {
        String[] sums = {"0-" + MILLIARD, "0-1", "0", "1", "998", "999", "1000", "1000*2", MILLIARD};
        int[] told = {0, 0, 0, 1, 998, 999, 999, 999, 999};
        for (int i = 0; i < sums.length; i++) {
            is("costs " + sums[i], under("costs " + sums[i]).asks(0, 1, 0, 0), told[i]);
        }
    }

    /** it is WORTH 0 .. 99 in a YEAR. */
    private static void worthRange() {
        String[] sums = {"0-" + MILLIARD, "0-1", "0", "1", "98", "99", "100", "1000", MILLIARD};
        int[] told = {0, 0, 0, 1, 98, 99, 99, 99, 99};
        for (int i = 0; i < sums.length; i++) {
            BellHeirs x = under("worth " + sums[i]);
            is("worth " + sums[i], x.at(1, 4), told[i]);
            is("worth " + sums[i], x.keep(1, 1, 1, -1), told[i]);
        }
    }

    /** by what the last "tires" that HOLDS tells. */
    private static void theLastThatHolds() {
        is("the last", under("tires 2;tires 3;tires 4").has(0, 0, 4), 4);
        is("the last is not so", under("tires 2;tires 3;tires 4 if 1=2").has(0, 0, 4), 3);
        is("the last is broken", under("tires 2;tires 3;tires 4/0").has(0, 0, 4), 3);
        is("its if is broken", under("tires 2;tires 3;tires 4 if 1/0=1").has(0, 0, 4), 3);
        is("the first alone", under("tires 2;tires 3 if 1=2;tires 4/0;tires 5 if 1%0=0").has(0, 0, 4), 2);
        is("others between", under("tires 2;costs 7;worth 8;opens;bars").has(0, 0, 4), 2);
        is("costs", under("costs 2;tires 9;costs 3;costs 4 if to=2").asks(0, 1, 0, 0), 3);
        is("costs", under("costs 2;tires 9;costs 3;costs 4 if to=2").asks(0, 2, 0, 0), 4);
        is("worth", under("worth 2;worth 3;worth 4 if house=1").at(0, 4), 3);
        is("worth", under("worth 2;worth 3;worth 4 if house=1").at(1, 4), 4);
        is("not so, though its sum is broken", under("tires 2;tires 1/0 if 1=2").has(0, 0, 4), 2);
        is("behind a broken one", under("tires 1/0;tires 3").has(0, 0, 4), 3);
        is("behind a broken if", under("bars if 1/0=1;tires 3;opens if 1=1").has(0, 0, 4), 3);
        is("behind a broken if", under("bars if 1/0=1;tires 3;opens if 1=1").has(0, 0, 3), 1);
    }

    /** 1 without; 5 without; 10 without. */
    private static void withoutWhatHolds() {
        String[] none = {"bars if 1=2", "tires 7 if 1=2;costs 7 if 1=2;worth 7 if 1=2", "tires 1/0;costs 1/0;worth 1/0",
            "tires 7 if 1/0=1;costs 7 if 1/0=1;worth 7 if 1/0=1"};
        for (String law : none) {
            BellHeirs x = under(law);
            is("tires, " + law, x.has(0, 0, 4), 1);
            is("costs, " + law, x.asks(0, 1, 0, 0), 5);
            is("worth, " + law, x.at(0, 4), 10);
        }
        BellHeirs y = small();
        is("tires without a law", y.has(0, 0, 4), 1);
        is("costs without a law", y.asks(0, 1, 0, 0), 5);
        is("worth without a law", y.at(0, 4), 10);
        is("barred without a law", y.asks(0, 1, 0, 1), 0);
        Due.law(y, "tires 7;costs 7;worth 7;bars");
        is("a law not in force", y.has(0, 0, 4) + y.asks(0, 1, 0, 0) + y.at(0, 4) + y.asks(0, 1, 0, 1), 16);
        y.force(0);
        is("in force", y.has(0, 0, 4) + y.asks(0, 1, 0, 0) + y.at(0, 4) + y.asks(0, 1, 0, 1), 22);
    }

    /** without such a CLAUSE (or a LAW), if WEARY is below 10. */
    private static void opensBelowTen() {
        String[] laws = {"", "bars", "tires 1"};
        for (String law : laws) {
            BellHeirs x = law.isEmpty() ? small() : under(law);
            x.right(0, 0, 20);
            for (int weary = 0; weary < 12; weary++) {
                is("weary " + weary, x.at(0, 2), weary);
                is("9 opens at " + weary, x.has(0, 0, 3), weary < 10 ? 1 : 0);
                is("21 opens at " + weary, x.ring(0, 0), weary < 10 ? 1 : 0);
            }
            is("another house", x.has(0, 1, 3), 1);
        }
    }

    /** if the LAW in FORCE has a CLAUSE of "opens" and one HOLDS. */
    private static void opensByClauses() {
        is("one", under("opens").has(0, 0, 3), 1);
        is("none holds", under("opens if 1=2").has(0, 0, 3), 0);
        is("none holds", under("opens if 1=2;opens if 1/0=1").has(0, 0, 3), 0);
        is("the first", under("opens;opens if 1=2").has(0, 0, 3), 1);
        is("the last", under("opens if 1=2;opens").has(0, 0, 3), 1);
        is("the one between", under("opens if 1=2;opens;opens if 1/0=1").has(0, 0, 3), 1);
        BellHeirs x = under("opens;tires 20");
        x.right(0, 0, 9);
        x.ring(0, 0);
        is("at weary 20, too", x.ring(0, 0), 1);
    }

    /** one is BARRED from selling, if "bars" HOLDS. */
    private static void barredByClauses() {
        is("one", under("bars").asks(0, 1, 0, 1), 1);
        is("not so", under("bars if 1=2").asks(0, 1, 0, 1), 0);
        is("broken", under("bars if 1/0=1").asks(0, 1, 0, 1), 0);
        is("the first", under("bars;bars if 1=2").asks(0, 1, 0, 1), 1);
        is("the last", under("bars if 1=2;bars").asks(0, 1, 0, 1), 1);
        is("none", under("opens").asks(0, 1, 0, 1), 0);
        is("of who sells", under("bars if person=0").asks(0, 1, 0, 1), 1);
        is("of who sells", under("bars if person=0").asks(1, 0, 0, 1), 0);
    }

    /** All are asked of a PERSON and a HOUSE (left: LEFT of that one there; to: to whom it would be sold). */
    private static void wordsOfLaws() {
        String[] words = {"person", "age", "purse", "house", "weary", "left", "year", "mood"};
        int[] values = {1, 30, 20, 1, 2, 3, 12, 4};
        for (int i = 0; i < words.length; i++) {
            String is = words[i] + "=" + values[i];
            BellHeirs x = small();
            x.ring(1, 1);
            x.ring(0, 1);
            Due.law(x, "tires 7 if " + is + ";opens if " + is + ";costs 9 if " + is + ";bars if " + is);
            x.force(0);
            is("tires " + is, x.has(1, 1, 4), 7);
            is("opens " + is, x.has(1, 1, 3), 1);
            is("costs " + is, x.asks(1, 2, 1, 0), 9);
            is("bars " + is, x.asks(1, 2, 1, 1), 1);
        }
        is("to of costs", under("costs 9 if to=2").asks(0, 2, 0, 0), 9);
        is("to of bars", under("bars if to=2").asks(0, 2, 0, 1), 1);
        is("worth house", under("worth house*7").at(1, 4), 7);
        is("worth year", under("worth year").at(1, 4), 12);
        is("worth mood", under("worth mood").at(1, 4), 4);
        BellHeirs y = under("worth weary");
        y.ring(0, 1);
        is("worth weary", y.at(1, 4), 1);
        is("worth weary", y.at(0, 4), 0);
    }

    /** else -1; "worth": person, age, purse, left -1. */
    private static void wordsThatAreNot() {
        is("to of tires", under("tires 7+to").has(0, 0, 4), 6);
        is("to of opens", under("opens if to=0-1").has(0, 0, 3), 1);
        String[] words = {"person", "age", "purse", "left", "to"};
        for (String word : words) {
            is("worth " + word, under("worth 50+" + word).at(0, 4), 49);
            is("kept " + word, under("worth 50+" + word).keep(0, 1, 1, -1), 49);
        }
    }

    // ---------------------------------------------------------------- ORDERS

    private static void orders() {
        timesAndIf();
        wordsOfOrders();
        latestTold();
        sumsFromTheLeft();
        brokenSums();
        refusedDeeds();
        whichClause();
        allAsItWas();
        stoppedOfTheLatest();
    }

    /** each as often as TIMES tell; each time its "if" is asked (not run, if it is not so or BROKEN). */
    private static void timesAndIf() {
        BellHeirs x = small();
        is("17 never so", Due.orders(x, "pass times 20 if 1=2"), 0);
        is("17 broken", Due.orders(x, "pass times 20 if 1/0=1"), 0);
        is("17 the deed is not looked at", Due.orders(x, "die 99 if 1=2"), 0);
        is("17 nor is its SUM", Due.orders(x, "die 1/0 if 1=2"), 0);
        is("17 nor is its SUM", Due.orders(x, "die 1/0 if 1/0=1"), 0);
        is("41 year", x.count(13), 12);
        is("17 till it is not so", Due.orders(x, "pass times 20 if year<15"), 3);
        is("17 asked each time", Due.orders(x, "pass times 20 if done<7;pass times 5 if done<9"), 9);
        is("17 only some times", Due.orders(x, "ring 0 at 0 times 3;pass times 4 if weary 0>2"), 4);
        is("17 behind a broken if", Due.orders(x, "die 0 if 1/0=1;pass;ring 0 at 0 if 1=1;pass times 2 if 1=1"), 4);
        is("17 broken some times", Due.orders(x, "pass times 3;pass times 3 if 3/[4-done]=3"), 4);
    }

    /** done: how many were run in this TEXT; living: how many PEOPLE; left: LEFT of all HOUSES together. */
    private static void wordsOfOrders() {
        BellHeirs x = small();
        is("done at first", Due.orders(x, "pass if done=0"), 1);
        is("done of this TEXT", Due.orders(x, "pass if done=0"), 1);
        is("done", Due.orders(x, "pass times 20;pass times 20 if done<39;die 2 if done=39"), 40);
        is("those not run are not counted", Due.orders(x, "pass if 1=2;pass if done=0"), 1);
        is("living", Due.orders(x, "pass if living=2"), 1);
        is("living", Due.orders(x, "die 0;pass if living=1;die 1;pass if living=0"), 4);
        BellHeirs y = small();
        is("left", Due.orders(y, "ring 0 at 0 if left 0=8;ring 0 at 1 if left 0=7;pass if left 0=6;pass if left 0=8"), 4);
        is("left of one who is dead", Due.orders(y, "die 1 if left 1=4;pass if left 1=0"), 2);
        is("purse of one who is dead", Due.orders(y, "pass if purse 1=20"), 1);
        is("purse", Due.orders(y, "sell 0 to 2 of 0;pass if purse 0=55 and purse 2=2"), 2);
        is("year", Due.orders(y, "pass if year=" + y.count(13) + ";pass if year=" + (y.count(13) + 1)), 2);
    }

    /** latest: what the latest ring in it told (-1: none). */
    private static void latestTold() {
        BellHeirs x = small();
        Due.law(x, "opens if left=4");
        x.force(0);
        is("none", Due.orders(x, "pass if latest=0-1"), 1);
        is("shut", Due.orders(x, "ring 0 at 0;pass if latest=0"), 2);
        is("none in this one", Due.orders(x, "pass if latest=0-1"), 1);
        is("shut, then open", Due.orders(x, "ring 0 at 0 times 2;pass if latest=1"), 3);
        is("the latest ring, not the latest deed",
            Due.orders(x, "ring 0 at 0 times 2;pass;sell 0 to 1 of 0;pass if latest=1"), 5);
        is("a ring that was not run", Due.orders(x, "ring 0 at 0 if 1=2;pass if latest=0-1"), 1);
    }

    /** then its SUMS from the left, each time. */
    private static void sumsFromTheLeft() {
        BellHeirs x = small();
        is("17 sums", Due.orders(x, "ring 1-1 at 2*3-5"), 1);
        is("17 sums", x.has(0, 1, 1), 1);
        is("17 sums each time", Due.orders(x, "ring done at 1 times 2"), 2);
        is("17 sums each time", x.has(0, 1, 1) * 10 + x.has(1, 1, 1), 21);
        is("17 sums", Due.orders(x, "sell [0] to living-1 of 5%5"), 1);
        is("17 sums", x.has(2, 0, 0), 1);
        is("17 sums", Due.orders(x, "die living-1"), 1);
        is("17 sums", x.of(2, 5), 0);
    }

    private static void cannotBe(String text, int clause) {
        BellHeirs x = small();
        is("17 " + text, Due.orders(x, text), -3);
        is("19 " + text, x.stopped(), clause);
        is("18 " + text, x.fault(), -1);
        is("42 " + text, x.status(), -3);
        is("41 " + text, x.count(9), 1);
        is("41 " + text, x.count(7) + x.count(8), 0);
        is("17 the tape is empty then", x.count(6), 0);
    }

    /** One that can't be (a BROKEN SUM). */
    private static void brokenSums() {
        cannotBe("ring 1/0 at 0", 0);
        cannotBe("ring 0 at 1/0", 0);
        cannotBe("sell 1/0 to 1 of 0", 0);
        cannotBe("sell 0 to 1/0 of 0", 0);
        cannotBe("sell 0 to 1 of 1/0", 0);
        cannotBe("die 1/0", 0);
        cannotBe("ring 0 at 0*[" + MILLIARD + "+1]", 0);
        cannotBe("pass;ring 0*[1/[1-done]] at 0", 1);
    }

    /** as ring(), sell(), die(), pass() are REFUSED. */
    private static void refusedDeeds() {
        cannotBe("ring 3 at 0", 0);
        cannotBe("ring 0-1 at 0", 0);
        cannotBe("ring 0 at 2", 0);
        cannotBe("ring 0 at 0-1", 0);
        cannotBe("ring 2 at 0", 0);
        cannotBe("ring 0 at 0 times 6", 0);
        is("just as many", Due.orders(small(), "ring 0 at 0 times 5"), 5);
        cannotBe("sell 0 to 0 of 0", 0);
        cannotBe("sell 3 to 0 of 0", 0);
        cannotBe("sell 0 to 3 of 0", 0);
        cannotBe("sell 0 to 1 of 2", 0);
        cannotBe("sell 2 to 1 of 0", 0);
        cannotBe("sell 0 to 2 of 0 times 2", 0);
        is("just as many", Due.orders(small(), "sell 0 to 1 of 0 times 4"), 4);
        cannotBe("sell 0 to 1 of 0 times 5", 0);
        cannotBe("die 3", 0);
        cannotBe("die 0-1", 0);
        cannotBe("die 0 times 2", 0);
        cannotBe("die 0;ring 0 at 0", 1);
        cannotBe("die " + MILLIARD, 0);
        cannotBe("ring 256*256*256*64 at 0", 0);
        BellHeirs x = small();
        x.terms(0, 979);
        is("to the last year", Due.orders(x, "pass times 20"), 20);
        is("beyond it", Due.orders(x, "pass"), -3);
        x.terms(0, 980);
        is("beyond it", Due.orders(x, "pass times 20"), -3);
        is("beyond it", x.count(13), 980);
    }

    /** Promise 19: which CLAUSE, 0 .. 11. */
    private static void whichClause() {
        for (int i = 0; i < 12; i++) {
            cannotBe("pass;".repeat(i) + "die 3" + ";pass".repeat(11 - i), i);
        }
        cannotBe("pass times 20;ring 0 at 0 times 20", 1);
        cannotBe("die 3 if 1=2;die 3 if 1/0=1;die 3 if done=0", 2);
    }

    private static String all(BellHeirs x) {
        StringBuilder s = new StringBuilder();
        for (int what = 0; what <= 15; what++) {
            s.append(what >= 7 && what <= 11 ? 0 : x.count(what)).append(' ');
        }
        for (int h = 0; h < 2; h++) {
            s.append(x.at(h, 2)).append(' ');
            for (int p = 0; p < 3; p++) {
                s.append(x.has(p, h, 0)).append(' ').append(x.has(p, h, 1)).append(' ');
            }
        }
        for (int p = 0; p < 3; p++) {
            s.append(x.of(p, 2)).append(' ').append(x.of(p, 5)).append(' ');
        }
        return s.toString();
    }

    /** ends it: all is as it was ahead of it, what can be undone, too. */
    private static void allAsItWas() {
        BellHeirs x = small();
        x.will(0, 6);
        x.ring(0, 0);
        x.ring(0, 1);
        x.sell(0, 1, 0);
        String before = all(x);
        String[] texts = {"ring 0 at 0;sell 0 to 1 of 0;pass;die 0;die 0", "pass times 20;die 9", "die 0;pass times 17;pass;die 0",
            "ring 0 at 0 times 20", "pass;ring 0 at 0;what"};
        for (String text : texts) {
            is("17 " + text, Due.orders(x, text) < 0 ? 1 : 0, 1);
            is("17 all is as it was: " + text, before.equals(all(x)) ? 1 : 0, 1);
        }
        is("25 as it was", x.undo(), 1);
        is("25 as it was", x.undo(), 0);
        is("25 as it was", x.has(0, 1, 1) * 10 + x.has(0, 0, 1), 1);
        is("25 as it was", x.undo(), 0);
        is("25 as it was", x.undo(), -3);
        BellHeirs y = small();
        for (int i = 0; i < 18; i++) {
            y.pass();
        }
        is("17", Due.orders(y, "ring 0 at 0 times 5;pass times 20;die 9"), -3);
        is("41 sixteen", y.count(5), 16);
        for (int i = 1; i <= 16; i++) {
            is("25 sixteen", y.undo(), 3);
            is("25 sixteen", y.count(13), 12 + 18 - i);
        }
        is("25 sixteen", y.undo(), -3);
    }

    /** Promise 19: of the latest orders(). NONE. */
    private static void stoppedOfTheLatest() {
        BellHeirs x = small();
        is("19 ahead of any", x.stopped(), -1);
        Due.orders(x, "pass;die 9");
        is("19", x.stopped(), 1);
        Due.law(x, "what");
        x.die(9);
        is("19 stays", x.stopped(), 1);
        Due.orders(x, "pass");
        is("19 none", x.stopped(), -1);
        Due.orders(x, "die 9");
        is("19", x.stopped(), 0);
        Due.orders(x, "pass;die");
        is("19 none of those that were not run", x.stopped(), -1);
        Due.orders(x, "die 9");
        Due.orders(x, "die 9 if 1=2");
        is("19 none", x.stopped(), -1);
    }
}
