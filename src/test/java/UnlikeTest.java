/**
 * Suburbs in which numbers that could be taken for one another are unlike: as many houses as people nowhere,
 * a person of another number than the house, each word of a law with a value of its own.
 */
public final class UnlikeTest {
    private static final Due due = new Due("UnlikeTest");
    private static final String[] WORDS = {"person", "age", "purse", "house", "weary", "left", "year", "to", "mood"};

    public static void main(String[] args) {
        tiresByWords();
        opensByWords();
        costsByWords();
        barsByWords();
        worthByWords();
        moreHousesThanPeople();
        morePeopleThanHouses();
        rightsAreNotLeft();
        theDead();
        whoseSale();
        paperUsedAgain();
        noRoom();
        peopleAheadOfHouses();
        newOnesTakeNothing("hphphphphphppp");
        newOnesTakeNothing("pphphhphpphphp");
        newOnesTakeNothing("hhhphphppphppp");
        homesOfImages();
        due.end();
    }

    private static void is(String call, long got, long want) {
        due.is(call, got, want);
    }

    /**
     * Of PERSON 1 and HOUSE 4 under a law: age 15, purse 12, weary 7, left 9, year 3, mood 6; of PERSON 2, to whom
     * it sells, age 19, purse 17, left 11. The house is tired by 7 rings of PERSON 0, without a law in FORCE.
     */
    private static BellHeirs under(String law) {
        BellHeirs x = new BellHeirs();
        for (int i = 0; i < 6; i++) {
            x.house(i, 20 + i);
        }
        x.person(8, 14, 30);
        x.person(9, 15, 12);
        x.person(10, 19, 17);
        x.right(0, 4, 8);
        x.right(0, 1, 1);
        x.right(1, 4, 9);
        x.right(1, 1, 13);
        x.right(2, 4, 11);
        x.terms(0, 3);
        x.terms(2, 6);
        for (int i = 0; i < 7; i++) {
            x.ring(0, 4);
        }
        x.ring(0, 1);
        is("16 " + law, Due.law(x, law), 0);
        x.force(0);
        return x;
    }

    /** What the words are of PERSON 1 and HOUSE 4; of "worth" person, age, purse, left are -1. */
    private static int[] values(boolean ofPerson, int to) {
        return ofPerson ? new int[] {1, 15, 12, 4, 7, 9, 3, to, 6} : new int[] {-1, -1, -1, 4, 7, -1, 3, to, 6};
    }

    private static void tiresByWords() {
        int[] values = values(true, -1);
        for (int w = 0; w < WORDS.length; w++) {
            BellHeirs x = under("tires " + WORDS[w] + " + 2");
            is("9 tires " + WORDS[w], x.has(1, 4, 4), values[w] + 2);
            is("21 tires " + WORDS[w], x.ring(1, 4), 1);
            is("21 tires " + WORDS[w], x.at(4, 2), 7 + values[w] + 2);
            is("21 the other house", x.at(1, 2), 1);
            BellHeirs y = under("tires 11 if " + WORDS[w] + " = 0 - 1 + " + (values[w] + 1) + "; tires 2 if " + WORDS[w] + " > "
                + (values[w] + 1));
            is("9 tires if " + WORDS[w], y.has(1, 4, 4), 11);
        }
    }

    private static void opensByWords() {
        int[] values = values(true, -1);
        for (int w = 0; w < WORDS.length; w++) {
            for (int off = -1; off <= 1; off++) {
                BellHeirs x = under("opens if " + WORDS[w] + " + 1 = " + (values[w] + 1) + " + " + (off + 1) + " - 1");
                is("9 opens if " + WORDS[w], x.has(1, 4, 3), off == 0 ? 1 : 0);
                is("21 opens if " + WORDS[w], x.ring(1, 4), off == 0 ? 1 : 0);
                // Behind a ring weary is 8 and left is 8.
                int behind = WORDS[w].equals("weary") || WORDS[w].equals("left") ? 8 : values[w];
                is("17 opens if " + WORDS[w], Due.orders(x, "ring 1 at 4; die 0 if latest = 1"),
                    behind == values[w] + off ? 2 : 1);
            }
        }
    }

    private static void costsByWords() {
        int[] values = values(true, 2);
        for (int w = 0; w < WORDS.length; w++) {
            BellHeirs x = under("costs " + WORDS[w]);
            is("10 costs " + WORDS[w], x.asks(1, 2, 4, 0), values[w]);
            is("10 it can be, " + WORDS[w], x.asks(1, 2, 4, 2), 1);
            is("35 costs " + WORDS[w], x.chain(1, 2, 4, -1), values[w]);
            is("22 costs " + WORDS[w], x.sell(1, 2, 4), values[w]);
            is("22 from, " + WORDS[w], x.of(1, 2), 12 + values[w]);
            is("22 to, " + WORDS[w], x.of(2, 2), 17 - values[w]);
            is("22 RIGHTS", x.has(1, 4, 0), 8);
            is("22 RIGHTS", x.has(2, 4, 0), 12);
            is("22 nobody else", x.of(0, 2), 30);
        }
        BellHeirs x = under("costs 18 - to + person");
        is("10 17, as much as the purse", x.asks(1, 2, 4, 0), 17);
        is("10 17, as much as the purse", x.asks(1, 2, 4, 2), 1);
        is("10 19 of 12", x.asks(2, 1, 4, 0), 19);
        is("10 19 of 12", x.asks(2, 1, 4, 2), 0);
        is("22 19 of 12", x.sell(2, 1, 4), -3);
        is("22 17 of 17", x.sell(1, 2, 4), 17);
        is("22 17 of 0", x.sell(1, 2, 4), -3);
        is("22 20 of 29, but nothing LEFT", x.sell(2, 0, 1), -3);
        is("22 20 of 30", x.sell(2, 0, 4), 20);
    }

    private static void barsByWords() {
        int[] values = values(true, 2);
        for (int w = 0; w < WORDS.length; w++) {
            for (int off = -1; off <= 1; off++) {
                BellHeirs x = under("bars if " + WORDS[w] + " + 1 = " + (values[w] + 1) + " + " + (off + 1) + " - 1");
                is("10 bars if " + WORDS[w], x.asks(1, 2, 4, 1), off == 0 ? 1 : 0);
                is("10 it can be, bars if " + WORDS[w], x.asks(1, 2, 4, 2), off == 0 ? 0 : 1);
                is("22 bars if " + WORDS[w], x.sell(1, 2, 4), off == 0 ? -3 : 5);
            }
        }
    }

    private static void worthByWords() {
        int[] values = values(false, -1);
        for (int w = 0; w < WORDS.length; w++) {
            BellHeirs x = under("worth 20 + 3 * " + WORDS[w]);
            is("3 worth " + WORDS[w], x.at(4, 4), 20 + 3 * values[w]);
            is("34 worth " + WORDS[w], x.keep(4, 1, 1, -1), 20 + 3 * values[w]);
            is("34 worth next, " + WORDS[w], x.keep(4, 1, 2, -1), 20 + 3 * values[w] + (WORDS[w].equals("year") ? 3 : 0));
        }
    }

    /** Six houses, two people: what is of HOUSE 5 is not of a PERSON 5. */
    private static void moreHousesThanPeople() {
        BellHeirs x = new BellHeirs();
        for (int i = 0; i < 6; i++) {
            x.house(i, 2 + i);
        }
        x.person(24, 1, 100);
        x.person(20, 1, 100);
        x.right(0, 5, 6);
        x.right(1, 5, 3);
        x.right(1, 4, 1);
        is("3 all RIGHTS", x.at(5, 3), 9);
        is("32 how many", x.amend(5, 0), 1);
        is("32 the lowest", x.amend(5, 1), 1);
        is("33", x.given(5, 4, 0), 3);
        is("33", x.given(5, 4, 1), 1);
        is("34", x.keep(5, 2, 1, -1), 19);
        is("34", x.keep(5, 2, 1, 0), 2);
        is("35", x.chain(0, 1, 5, -1), 5);
        is("35", x.chain(0, 1, 5, 0), 1);
        is("35", x.chain(1, 0, 4, -1), 5);
        is("10", x.asks(1, 0, 4, 2), 1);
        is("10", x.asks(0, 1, 4, 2), 0);
        is("10", x.asks(1, 0, 4, 0), 5);
        is("26", x.visits(1, 99, -1), 2);
        is("26 HOUSE 5 is at PLACE 5", x.visits(1, 99, 0), 5);
        is("26", x.visits(1, 99, 1), 4);
        is("28", x.clue(5, 99), 1);
        is("30", x.who(), 3);
        is("28", x.clue(4, 99), 2);
        is("30", x.who(), 2);
        is("31", x.look(0), 0);
        x.forget();
        is("31 one with, one without", x.look(0), 4);
        is("31", x.look(1), 1);
        x.want(0, 4);
        x.want(1, 5);
        is("27", x.exchange(0), 2);
        is("27", x.exchange(1), 1);
        is("27", x.exchange(2), 0);
        is("27 there is no PERSON 2", x.exchange(3), -1);
        is("17 left of all HOUSES", Due.orders(x, "pass if left 0 = 6; pass if left 1 = 4; pass if weary 5 = 0 and weary 1 = 0"), 3);
        is("21", x.ring(1, 5), 1);
        is("3", x.at(5, 2), 1);
        is("8 fewer than USED", x.right(1, 5, 0), -3);
        is("8 as many as USED", x.right(1, 5, 1), 3);
        is("8", x.right(1, 5, 3), 1);
        is("17 weary", Due.orders(x, "pass if left 1 = 3 and weary 5 = 1"), 1);
        is("23", x.will(1, 1), 0);
        is("23", x.die(1), 1);
        is("23", x.has(0, 5, 0), 9);
        is("23", x.has(0, 4, 0), 1);
        is("41", x.count(2), 1);
    }

    /** Two houses, eight people: what is of PERSON 7 is not of a HOUSE 7. */
    private static void morePeopleThanHouses() {
        BellHeirs x = new BellHeirs();
        x.house(0, 4);
        x.house(12, 3);
        for (int i = 0; i < 8; i++) {
            x.person(i, 10 + i, 20 + i);
        }
        x.right(7, 1, 5);
        x.right(6, 0, 1);
        x.right(6, 1, 2);
        for (int house = 2; house < 9; house++) {
            is("3 none", x.at(house, 0), -1);
            is("8 none", x.right(7, house, 1), -2);
            is("9 none", x.has(7, house, 0), -1);
            is("10 none", x.asks(7, 6, house, 0), -1);
            is("21 none", x.ring(7, house), -2);
            is("22 none", x.sell(7, 6, house), -2);
            is("28 none", x.clue(house, 9), -2);
            is("32 none", x.amend(house, 0), -1);
            is("33 none", x.given(house, 5, 7), -1);
            is("34 none", x.keep(house, 5, 2, -1), -1);
            is("35 none", x.chain(7, 6, house, -1), -1);
            is("38 none", x.drawn(7, house), -1);
            is("6 none", x.want(7, house), -1);
        }
        is("9", x.has(7, 1, 2), 5);
        is("32", x.amend(1, 1), 128);
        is("33", x.given(1, 5, 7), 4);
        is("33", x.given(1, 5, 6), 1);
        is("35", x.chain(7, 6, 1, -1), 5);
        is("35", x.chain(6, 7, 0, 0), 7);
        is("26", x.visits(7, 99, -1), 1);
        is("26", x.visits(6, 99, 1), 1);
        is("30", x.who(), 255);
        x.clue(1, 3);
        is("30", x.who(), 192);
        x.want(7, 0);
        x.want(6, 1);
        is("27", x.exchange(0), 2);
        is("27", x.exchange(8), 6);
        is("27", x.exchange(7), 7);
        is("17", Due.orders(x, "ring 7 at 1 times 5; pass if left 7 = 0 and purse 7 = 27 and weary 1 = 5"), 6);
        is("7", x.will(7, 64), 0);
        is("23", x.die(7), 1);
        is("23", x.has(6, 1, 0), 7);
    }

    /** RIGHTS, not what is LEFT of them, where the document says RIGHTS; LEFT where it says so. */
    private static void rightsAreNotLeft() {
        BellHeirs x = new BellHeirs();
        x.house(0, 6);
        x.house(0, 0);
        x.person(0, 0, 100);
        x.person(0, 0, 100);
        x.person(0, 0, 100);
        x.right(0, 0, 99);
        x.right(1, 0, 4);
        is("21", x.ring(0, 0), 1);
        is("22 the other one's RIGHTS are below 99", x.sell(1, 0, 0), -3);
        is("10", x.asks(1, 0, 0, 2), 0);
        is("35", x.chain(1, 0, 0, -1), -1);
        x.right(0, 0, 98);
        is("22", x.sell(1, 0, 0), 5);
        is("22", x.has(0, 0, 0), 99);
        x.right(0, 0, 6);
        for (int i = 0; i < 4; i++) {
            x.ring(0, 0);
        }
        is("9 RIGHTS 6", x.has(0, 0, 0), 6);
        is("9 USED 5", x.has(0, 0, 1), 5);
        is("9 LEFT 1", x.has(0, 0, 2), 1);
        is("33 RIGHTS 6 and 3", x.given(0, 3, 0), 2);
        is("33 RIGHTS 6 and 3", x.given(0, 3, 1), 1);
        is("33 two of three", x.given(0, 99, 0), 66);
        is("32 RIGHTS 6 and 3, BEARS 6", x.amend(0, 1), 1);
        is("3 all RIGHTS", x.at(0, 3), 9);
        x.right(0, 1, 3);
        x.right(1, 1, 6);
        for (int i = 0; i < 5; i++) {
            x.ring(1, 1);
        }
        is("33 RIGHTS 3 and 6, LEFT 3 and 1", x.given(1, 3, 0), 1);
        is("33 RIGHTS 3 and 6, LEFT 3 and 1", x.given(1, 3, 1), 2);
        is("33 the first ring", x.given(1, 1, 1), 1);
        is("26 one LEFT", x.visits(0, 0, -1), 2);
        x.ring(0, 0);
        is("26 none LEFT", x.visits(0, 0, -1), 1);
        is("35 nothing LEFT", x.chain(0, 1, 0, -1), -1);
        is("22 nothing LEFT", x.sell(0, 1, 0), -3);
        x.will(0, 4);
        is("23", x.die(0), 1);
        is("23 as many as they are, whatever is USED", x.has(2, 0, 0), 6);
        is("23 none of them USED", x.has(2, 0, 1), 0);
    }

    /** One who is DEAD has a WANT and HEIRS still, and is asked of; but takes part in nothing. */
    private static void theDead() {
        BellHeirs x = under("tires age; costs purse; bars if age = 15 and to = 0");
        x.want(1, 3);
        x.will(1, 1);
        x.will(2, 2);
        is("23", x.die(1), 1);
        is("5", x.of(1, 3), 3);
        is("5", x.of(1, 4), 1);
        is("5", x.of(1, 2), 12);
        is("5", x.of(1, 1), 15);
        is("6 a WANT of the DEAD", x.want(1, 2), 0);
        is("7 HEIRS of the DEAD", x.will(1, 4), 1);
        is("5", x.of(1, 4), 4);
        is("9 how a ring TIRES it", x.has(1, 4, 4), 15);
        is("9 whether it OPENS", x.has(1, 4, 3), 1);
        is("10 what it COSTS", x.asks(1, 0, 4, 0), 12);
        is("10 whether BARRED", x.asks(1, 0, 4, 1), 1);
        is("10 whether it can be", x.asks(0, 1, 4, 2), 0);
        is("17 living", Due.orders(x, "pass if living = 2; pass if purse 1 = 12 and left 1 = 0"), 2);
        is("7 a DEAD one as HEIR", x.will(0, 2), 0);
        is("23", x.die(0), 0);
        is("23 lost", x.at(4, 3), 11);
        is("23 its HEIR is DEAD", x.die(2), 0);
        is("23 lost", x.at(4, 3), 0);
        is("41", x.count(2), 0);
        is("37", x.generations(5, 60), 0);
    }

    /** Who sells has LEFT, to whom it is sold has the PURSE; the law is asked of who sells. */
    private static void whoseSale() {
        BellHeirs x = new BellHeirs();
        x.house(0, 0);
        x.house(0, 0);
        x.person(0, 50, 0);
        x.person(0, 60, 9);
        x.person(0, 70, 500);
        x.right(2, 1, 1);
        x.right(0, 1, 1);
        is("22 LEFT to the other one alone", x.sell(1, 2, 1), -3);
        is("10", x.asks(1, 2, 1, 2), 0);
        is("10 a PURSE of 0", x.asks(2, 0, 1, 2), 0);
        is("22 a PURSE of 0", x.sell(2, 0, 1), -3);
        is("10 the purse of who sells is none of it", x.asks(0, 2, 1, 2), 1);
        is("16", Due.law(x, "costs age - 50; bars if person = 1 and to = 0"), 0);
        x.force(0);
        is("10", x.asks(0, 1, 1, 0), 0);
        is("10", x.asks(1, 0, 1, 0), 10);
        is("10", x.asks(1, 0, 1, 1), 1);
        is("10", x.asks(0, 1, 1, 1), 0);
        is("22", x.sell(2, 1, 1), -3);
        is("22", x.sell(0, 1, 1), 0);
        is("22 BARRED", x.sell(1, 0, 1), -3);
        is("35 by PERSON 2 it is 20 of 0", x.chain(1, 0, 1, -1), -1);
        is("22", x.sell(1, 2, 1), 10);
        is("5", x.of(1, 2), 19);
        is("5", x.of(2, 2), 490);
        is("22 20 of 19", x.sell(2, 1, 1), -3);
        is("22 20 of 0", x.sell(2, 0, 1), -3);
        is("9", x.has(2, 1, 0), 2);
    }

    /** What was reckoned on paper ahead leaves nothing behind. */
    private static void paperUsedAgain() {
        BellHeirs x = new BellHeirs();
        x.house(0, 0);
        x.person(0, 0, 0);
        x.right(0, 0, 5);
        is("16", Due.law(x, "worth 99 if year < 4; worth 1 if year > 3"), 0);
        x.force(0);
        is("34 much", x.keep(0, 20, 8, -1), 4 * (99 + 98 + 97 + 96 + 95));
        for (int n = 8; n >= 1; n--) {
            int rings = 0;
            int most = 0;
            for (int in = 0; rings < 20 && in < 20; in++) {
                for (int year = 0; year < Math.min(n, 4) && rings < 20; year++) {
                    most += 99 - in;
                    rings++;
                }
            }
            is("34 years " + n, x.keep(0, 20, n, -1), most);
            is("34 one ring", x.keep(0, 1, n, -1), 99);
            is("34 one ring, the first row", x.keep(0, 1, n, Math.min(n, 4) - 1), 1);
            is("34 none", x.keep(0, 0, n, -1), 0);
        }
        x.terms(0, 4);
        is("34 little", x.keep(0, 20, 8, -1), 8);
        is("34 little", x.keep(0, 20, 2, -1), 2);
        is("34 little", x.keep(0, 20, 1, 0), 1);
        is("36", x.likely(20, 60) > 0 ? 1 : 0, 1);
        is("36", x.likely(20, 19), 0);
        is("36", x.likely(2, 2), 490000000000L);
        is("33", x.given(0, 99, 0), 99);
        is("33", x.given(0, 0, 0), 0);
    }

    /** -5 is told by status() and counted, by whatever call. */
    private static void noRoom() {
        BellHeirs x = new BellHeirs();
        is("37 no people, no HOUSES", x.generations(5, 5), -3);
        is("42", x.status(), -3);
        is("41", x.count(9), 1);
        for (int i = 0; i < 6; i++) {
            x.house(i, i);
            x.clue(0, i);
            Due.law(x, "opens");
        }
        for (int i = 0; i < 8; i++) {
            x.person(i, i, i);
        }
        is("42", x.status(), 0);
        is("2", x.house(0, 0), -5);
        is("42", x.status(), -5);
        is("41", x.count(10), 1);
        x.pass();
        is("4", x.person(0, 0, 0), -5);
        is("42", x.status(), -5);
        is("41", x.count(10), 2);
        x.pass();
        is("28", x.clue(0, 0), -5);
        is("42", x.status(), -5);
        is("41", x.count(10), 3);
        x.pass();
        is("16", Due.law(x, "opens"), -5);
        is("42", x.status(), -5);
        is("41", x.count(10), 4);
        is("25 still to be undone", x.count(5), 3);
    }

    /** Six HOUSES come though eight people are there, and the other way. */
    private static void peopleAheadOfHouses() {
        BellHeirs x = new BellHeirs();
        for (int i = 0; i < 8; i++) {
            is("4", x.person(24 - i, 90 - i, 900 - i), i);
        }
        for (int i = 0; i < 6; i++) {
            is("2", x.house(23 - i, 80 - i), i);
        }
        BellHeirs y = new BellHeirs();
        for (int i = 0; i < 6; i++) {
            is("2", y.house(23 - i, 80 - i), i);
        }
        for (int i = 0; i < 8; i++) {
            is("4", y.person(24 - i, 90 - i, 900 - i), i);
        }
        for (int i = 0; i < 8; i++) {
            for (int what = 0; what < 6; what++) {
                is("5", x.of(i, what), y.of(i, what));
            }
            is("5 home", x.of(i, 0), 24 - i);
            is("5 age", x.of(i, 1), 90 - i);
            is("5 purse", x.of(i, 2), 900 - i);
            is("3 place", x.at(i, 0), i < 6 ? 23 - i : -1);
            is("3 bears", x.at(i, 1), i < 6 ? 80 - i : -1);
        }
    }

    /** A new HOUSE, a new PERSON leaves RIGHTS and USED of all others as they are. */
    private static void newOnesTakeNothing(String order) {
        BellHeirs x = new BellHeirs();
        int houses = 0;
        int people = 0;
        for (char next : order.toCharArray()) {
            if (next == 'h') {
                is("2", x.house(0, 0), houses++);
            } else {
                is("4", x.person(0, 0, 0), people++);
            }
            for (int p = 0; p < people; p++) {
                for (int h = 0; h < houses; h++) {
                    boolean isNew = next == 'h' ? h == houses - 1 : p == people - 1;
                    is("9 RIGHTS of " + p + " to " + h, x.has(p, h, 0), isNew ? 0 : 1 + p + h);
                    is("9 USED of " + p + " of " + h, x.has(p, h, 1), isNew ? 0 : 1);
                    if (isNew) {
                        x.right(p, h, 1 + p + h);
                        x.ring(p, h);
                    }
                }
            }
        }
    }

    /** An IMAGE keeps all eight people and six HOUSES. */
    private static void homesOfImages() {
        BellHeirs x = new BellHeirs();
        x.image(0);
        fill(x, 0);
        x.image(1);
        x.back(0);
        is("40", x.count(1), 0);
        fill(x, 7);
        x.back(1);
        for (int i = 0; i < 8; i++) {
            is("40 home", x.of(i, 0), i);
            is("40 age", x.of(i, 1), 10 + i);
            is("40 purse", x.of(i, 2), 20 + i);
            is("40 want", x.of(i, 3), i % 6);
            is("40 heirs", x.of(i, 4), 1 << (i + 1) % 8);
            is("40 place", x.at(i, 0), i < 6 ? 10 + i : -1);
            is("40 bears", x.at(i, 1), i < 6 ? 30 + i : -1);
            for (int h = 0; h < 6; h++) {
                is("40 rights", x.has(i, h, 0), 40 + i + h);
            }
        }
    }

    private static void fill(BellHeirs x, int more) {
        for (int i = 0; i < 6; i++) {
            x.house(10 + i + more, 30 + i + more);
        }
        for (int i = 0; i < 8; i++) {
            x.person(i + more, 10 + i + more, 20 + i + more);
        }
        for (int i = 0; i < 8; i++) {
            x.want(i, (i + more) % 6);
            x.will(i, 1 << (i + 1 + more / 7) % 8);
            for (int h = 0; h < 6; h++) {
                x.right(i, h, 40 + i + h + more);
            }
        }
    }
}
