/** Promises 16 to 19: LAWS, ORDERS, where their FAULTS are, and what they tell. */
public final class TextTest {
    private static final Due due = new Due("TextTest");

    public static void main(String[] args) {
        laws();
        lawFaults();
        limits();
        brokenOnes();
        orderRuns();
        orderFaults();
        stops();
        due.end();
    }

    private static void is(String call, long got, long want) {
        due.is(call, got, want);
    }

    private static BellHeirs small() {
        BellHeirs x = new BellHeirs();
        x.house(0, 5);
        x.house(7, 9);
        x.person(0, 40, 50);
        x.person(1, 30, 20);
        x.person(6, 20, 7);
        x.right(0, 0, 5);
        x.right(0, 1, 3);
        x.right(1, 1, 4);
        x.terms(2, 4);
        return x;
    }

    /** A LAW in FORCE over the small suburb. */
    private static BellHeirs under(String text) {
        BellHeirs x = small();
        is("16 " + text, Due.law(x, text), 0);
        is("18 " + text, x.fault(), -1);
        is("16 the tape is empty", x.count(6), 0);
        x.force(0);
        return x;
    }

    private static void tells(String sum, int value) {
        is("tires " + sum, under("tires " + sum).has(0, 1, 4), value);
    }

    private static void isSo(String test, int so) {
        is("opens if " + test, under("opens if " + test).has(0, 1, 3), so);
    }

    private static void laws() {
        tells("3", 3);
        tells("21", 20);
        tells("0-1", 0);
        tells("2+3*4", 14);
        tells("[2+3]*4", 20);
        tells("10-3-2", 5);
        tells("100/10/5", 2);
        tells("17%5*2", 4);
        tells("8-[0-7]/2", 11);
        tells("8+[0-7]%4", 5);
        tells("age/10", 4);
        tells("purse/10", 5);
        tells("person+house", 1);
        tells("left", 3);
        tells("weary", 0);
        tells("mood", 4);
        tells("year", 0);
        tells("to+5", 4);
        tells("1;tires 2", 2);
        tells("1;tires 2 if 1=2", 1);
        tells("1;tires 1/0", 1);
        tells("1;tires 3 if 1/0=1", 1);
        tells("1 if 1=2", 1);
        is("1 without", under("costs 3").has(0, 0, 4), 1);
        is("costs", under("costs 3").asks(0, 1, 0, 0), 3);
        is("costs", under("costs 1000").asks(0, 1, 0, 0), 999);
        is("costs", under("costs 0-1").asks(0, 1, 0, 0), 0);
        is("costs of", under("costs person*100+to*10+age").asks(0, 2, 0, 0), 60);
        is("worth", under("worth 100").at(1, 4), 99);
        is("worth", under("worth 0-7").at(1, 4), 0);
        is("worth", under("worth 1/0").at(1, 4), 10);
        is("worth", under("worth 0-[person+age+purse+left+to]").at(1, 4), 5);
        is("worth", under("worth 10*house+mood+weary").at(1, 4), 14);
        isSo("1=1", 1);
        isSo("1<1", 0);
        isSo("2>1", 1);
        isSo("not 1=1", 0);
        isSo("not not 1=1", 1);
        isSo("not 1=2 and 1=2", 0);
        isSo("not(1=2 and 1=2)", 1);
        isSo("1=1 or 1=2 and 1=2", 1);
        isSo("(1=1 or 1=2) and 1=2", 0);
        isSo("to=0-1", 1);
        is("one HOLDS", under("opens if 1=2;opens;opens if 1=2").has(0, 0, 3), 1);
        is("opens alone", under("opens if 1=2").has(0, 0, 3), 0);
        is("bars", under("bars if to=1").asks(0, 1, 0, 1), 1);
        is("bars", under("bars if to=1").asks(0, 2, 0, 1), 0);
        is("bars", under("bars;bars if 1=2").asks(0, 2, 0, 1), 1);
        is("bars", under("bars if 1/0=1").asks(0, 2, 0, 1), 0);
        BellHeirs x = under("opens if 1=2");
        x.force(-1);
        is("without a LAW", x.has(0, 0, 3), 1);
        is("blanks", Due.law(x, "  tires   1+1  ;opens "), 1);
        is("no blanks", Due.law(x, "tires1;opens"), 2);
        is("no blanks", Due.law(x, "tires age+1if(to=1)and not[1]=2"), 3);
        is("leading noughts", Due.law(x, "tires 0001000"), 4);
        is("many noughts", Due.law(x, "tires 00000000000000000000000000000000000007"), 5);
        Due.put(x, "what");
        is("16 no room", x.law(), -5);
        is("16 no room, the tape is empty", x.count(6), 0);
        is("18 no room, not read", x.fault(), -1);
        is("41 laws", x.count(4), 6);
    }

    private static void faultAt(String text, int place) {
        BellHeirs x = new BellHeirs();
        is("16 " + text, Due.law(x, text), -6);
        is("18 " + text, x.fault(), place);
        is("16 the tape is empty", x.count(6), 0);
        is("41 laws", x.count(4), 0);
    }

    private static void lawFaults() {
        faultAt("", 0);
        faultAt("   ", 3);
        faultAt("tires", 5);
        faultAt("tires ", 6);
        faultAt("Tires 1", 0);
        faultAt(" tire 1", 1);
        faultAt("tires 1 1", 8);
        faultAt("tires 1;", 8);
        faultAt("tires 1; ;", 9);
        faultAt(";", 0);
        faultAt("tires 1001", 6);
        faultAt("tires 99999999999999999999999", 6);
        faultAt("tires -1", 6);
        faultAt("tires 1+", 8);
        faultAt("tires (1)", 6);
        faultAt("tires [1)", 8);
        faultAt("tires [1=1]", 8);
        faultAt("tires living", 6);
        faultAt("tires left 1", 11);
        faultAt("tires 1 times 2", 8);
        faultAt("tires 1 if", 10);
        faultAt("tires 1 if 1", 12);
        faultAt("tires 1 if 1 and", 13);
        faultAt("tires 1 if 1=1 and", 18);
        faultAt("tires 1 if 1=1=1", 14);
        faultAt("tires 1 if [1=1]", 13);
        faultAt("tires 1 if (1=1", 15);
        faultAt("tires 1 if (1)=1", 13);
        faultAt("tires 1 if not", 14);
        faultAt("tires 1 if not or", 15);
        faultAt("tires 1 if 1=1 if 1=1", 15);
        faultAt("opens 1", 6);
        faultAt("opens;bars;costs", 16);
        faultAt("ring 1 at 1", 0);
        faultAt("tires if", 6);
        faultAt("tires 1\t", 7);
        faultAt("tires \u00e9", 6);
        BellHeirs x = new BellHeirs();
        Due.law(x, "tires x");
        is("18", x.fault(), 6);
        Due.law(x, "tires 1");
        is("18 without", x.fault(), -1);
        Due.orders(x, "die");
        is("18 of orders", x.fault(), 3);
        Due.orders(x, "die 1");
        is("18 orders that could not be", x.fault(), -1);
    }

    private static String repeat(String what, int times) {
        return what.repeat(times);
    }

    private static void limits() {
        BellHeirs x = new BellHeirs();
        is("12 clauses", Due.law(x, repeat("bars;", 11) + "bars"), 0);
        faultAt(repeat("bars;", 12) + "bars", 60);
        faultAt(repeat("bars;", 12), 60);
        faultAt(repeat("bars;", 12) + "  what", 62);
        is("50 parts", Due.law(x, "tires " + repeat("1+", 49) + "1"), 1);
        faultAt("tires " + repeat("1+", 50) + "1", 106);
        faultAt("tires " + repeat("1+", 50) + "[age]", 107);
        is("50 parts in all", Due.law(x, "tires " + repeat("1+", 24) + "1;tires " + repeat("1+", 24) + "1"), 2);
        faultAt("tires " + repeat("1+", 24) + "1;tires " + repeat("1+", 24) + "1;tires age", 118);
        is("8 brackets", Due.law(x, "tires " + repeat("[", 8) + "1" + repeat("]", 8)), 3);
        faultAt("tires " + repeat("[", 9) + "1" + repeat("]", 9), 14);
        faultAt("bars if " + repeat("(", 9) + "1=1" + repeat(")", 9), 16);
        faultAt("bars if " + repeat("(", 8) + "[1]=1" + repeat(")", 8), 16);
        faultAt("tires " + repeat("1+", 50) + ";bars", 106);
        faultAt("bars if " + repeat("(", 4) + repeat("[", 5) + "1" + repeat("]", 5) + "=1" + repeat(")", 4), 16);
        is("8 brackets of both kinds", Due.law(x, "bars if " + repeat("(", 4) + repeat("[", 4) + "1" + repeat("]", 4)
            + "=1" + repeat(")", 4)), 4);
        is("a hundred nots", Due.law(x, "bars if " + repeat("not ", 97) + "1=1"), 5);
        BellHeirs y = small();
        Due.law(y, "opens if " + repeat("not ", 97) + "1=1");
        Due.law(y, "opens if " + repeat("not ", 96) + "1=1");
        y.force(0);
        is("97 nots", y.has(0, 0, 3), 0);
        y.force(1);
        is("96 nots", y.has(0, 0, 3), 1);
        BellHeirs z = small();
        is("50 parts of orders", Due.orders(z, "die 9 if " + repeat("purse 1+", 47) + "1=0"), 0);
        is("50 parts, the 51st", Due.orders(z, "die 9 if " + repeat("left 1+", 48) + "1=left 1"), -6);
        is("18 the 51st", z.fault(), 9 + 48 * 7 + 2);
        is("P and TIMES aside", Due.orders(z, "pass times 1 if " + repeat("left 1+", 48) + "1=weary 0"), 0);
    }

    private static void brokenOnes() {
        tells("1000*1000*1000-1000*1000*1000+7", 7);
        tells("7+[1000*1000*1000+1]*0", 1);
        tells("7+[0-1000*1000*1000-1]*0", 1);
        tells("0-1000*1000*1000", 0);
        tells("1000*1000*[1000+1]/1000/1000", 1);
        tells("7%0", 1);
        tells("0*[1/0]", 1);
        isSo("1=1 or 1/0=1", 1);
        isSo("1/0=1 or 1=1", 0);
        isSo("1=2 and 1/0=1 or 1=1", 1);
        isSo("1=2 or 1/0=1 or 1=1", 0);
        isSo("1=1 and 1/0=1 or 1=1", 0);
        isSo("not 1/0=1", 0);
        isSo("not (1=1 or 1/0=1)", 0);
        isSo("not (1=2 and 1/0=1)", 1);
    }

    private static void orderRuns() {
        BellHeirs x = small();
        is("17", Due.orders(x, "ring 0 at 0"), 1);
        is("17 the tape is empty", x.count(6), 0);
        is("17", x.has(0, 0, 1), 1);
        is("17 times", Due.orders(x, "ring 0 at 1 times 3"), 3);
        is("17", x.has(0, 1, 1), 3);
        is("17 asked each time", Due.orders(x, "ring 1 at 1 times 20 if weary 1 < 5"), 2);
        is("17 sell", Due.orders(x, "sell 0 to 1 of 0 times 2"), 2);
        is("17 sell", x.has(1, 0, 0), 2);
        is("17 sell", x.of(1, 2), 10);
        is("17 pass", Due.orders(x, "pass times 20"), 20);
        is("17 pass", x.count(13), 20);
        is("17 not so", Due.orders(x, "die 0 if 1=2;die 9 if 1/0=1"), 0);
        is("17 done", Due.orders(x, "pass times 3;die 2 if done=3"), 4);
        is("17 die", x.of(2, 5), 0);
        is("17 living", Due.orders(x, "pass if living=2"), 1);
        is("17 latest none", Due.orders(x, "pass if latest=0-1;pass if latest=0"), 1);
        is("17 latest", Due.orders(x, "ring 0 at 0;pass if latest=1"), 2);
        is("17 latest of this text", Due.orders(x, "pass if latest=1"), 0);
        is("17 year", Due.orders(x, "pass if year=26"), 1);
        is("17 year", Due.orders(x, "pass if year>26;pass if year=26"), 1);
        is("17 purse", Due.orders(x, "pass if purse 0=60 and purse 1=10 and purse 2=7 and purse 7=0-1"), 1);
        is("17 left", Due.orders(x, "pass if left 0=6 and left 1=6 and left 2=0 and left 3=0-1"), 1);
        is("17 weary", Due.orders(x, "ring 0 at 1;pass if weary 1=1 and weary 0=0 and weary 5=0-1"), 2);
        is("17 sums", Due.orders(x, "ring [done] at living-1"), 1);
        is("17 sums", x.has(0, 1, 1), 1);
        is("17 sums asked each time", Due.orders(x, "ring done%2 at 1 times 3"), 3);
        is("17 sums asked each time", x.has(0, 1, 1), 3);
        is("17 sums asked each time", x.has(1, 1, 1), 1);
        Due.law(x, "opens if left=2");
        x.force(0);
        x.pass();
        is("17 latest told", Due.orders(x, "ring 0 at 1 times 2;pass if latest=1"), 3);
    }

    private static void orderFault(String text, int place) {
        BellHeirs x = small();
        Due.orders(x, "die 9");
        is("17 " + text, Due.orders(x, text), -6);
        is("18 " + text, x.fault(), place);
        is("19 none was run", x.stopped(), -1);
        is("17 the tape is empty", x.count(6), 0);
    }

    private static void orderFaults() {
        orderFault("", 0);
        orderFault("  ", 2);
        orderFault("ring", 4);
        orderFault("ring 0", 6);
        orderFault("ring 0 to 1", 7);
        orderFault("ring 0 at", 9);
        orderFault("sell 0 to 1", 11);
        orderFault("sell 0 at 1", 7);
        orderFault("sell 0 to 1 of", 14);
        orderFault("die", 3);
        orderFault("die purse", 9);
        orderFault("die purse 8", 10);
        orderFault("die purse x", 10);
        orderFault("die left 8", 9);
        orderFault("die weary 6", 10);
        orderFault("die [purse 1 2]", 13);
        orderFault("die age", 4);
        orderFault("die mood", 4);
        orderFault("pass 1", 5);
        orderFault("pass times", 10);
        orderFault("pass times 0", 11);
        orderFault("pass times 21", 11);
        orderFault("pass times 1+1", 12);
        orderFault("pass times 2 times 2", 13);
        orderFault("pass if 1=1 times 2", 12);
        orderFault("pass times done", 11);
        orderFault("pass;die", 8);
        orderFault("tires 1", 0);
        orderFault("pass if to=1", 8);
        orderFault("pass;".repeat(12) + "pass", 60);
        BellHeirs x = small();
        is("17 wholly or not at all", Due.orders(x, "pass;die"), -6);
        is("17 wholly or not at all", x.count(13), 0);
        is("17 P with noughts", Due.orders(x, "pass times 001 if purse 0007=0-1"), 1);
    }

    private static void stops() {
        BellHeirs x = small();
        x.ring(0, 0);
        is("17", Due.orders(x, "ring 0 at 0;pass;die 1;sell 0 to 2 of 1;ring 1 at 1"), -3);
        is("19", x.stopped(), 4);
        is("17 as it was", x.has(0, 0, 1), 1);
        is("17 as it was", x.count(13), 0);
        is("17 as it was", x.count(2), 3);
        is("17 as it was", x.of(2, 2), 7);
        is("17 as it was", x.at(0, 2), 1);
        is("17 as it was", x.has(1, 1, 0), 4);
        is("17 as it was", x.count(5), 1);
        is("18", x.fault(), -1);
        is("17 broken", Due.orders(x, "pass;pass;ring 0 at 1/0"), -3);
        is("19 broken", x.stopped(), 2);
        is("17 broken", Due.orders(x, "die 1/0"), -3);
        is("19 broken", x.stopped(), 0);
        is("17 oneself", Due.orders(x, "sell 0 to 0 of 0"), -3);
        is("17 no such", Due.orders(x, "ring 0-1 at 0"), -3);
        is("17 no such", Due.orders(x, "ring 1000*1000 at 0"), -3);
        is("17 the third time", Due.orders(x, "ring 0 at 1 times 4"), -3);
        is("17 the third time", x.has(0, 1, 1), 0);
        is("19", x.stopped(), 0);
        is("41 one refusal each", x.count(9), 7);
        is("41 one refusal each", x.count(7), 0);
        is("41 one refusal each", x.count(8), 0);
        is("17", Due.orders(x, "pass"), 1);
        is("19", x.stopped(), -1);
        x.terms(0, 998);
        is("17 the last year", Due.orders(x, "pass times 2"), -3);
        is("17 the last year", x.count(13), 998);
        is("17 times that are not run", Due.orders(x, "pass times 20 if year<999"), 1);
    }
}
