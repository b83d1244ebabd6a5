/**
 * The sentences of Terms III "(On paper:)" and IV and of promises 26 to 38 that name a boundary: each has a test of
 * its own, at the boundary and one beyond it on either side. Above each test stands its sentence.
 */
public final class EdgePaperTest {
    private static final Due due = new Due("EdgePaperTest");
    private static final int LOW = Integer.MIN_VALUE;
    private static final int HIGH = Integer.MAX_VALUE;
    private static final long WHOLE = 1000000000000L;

    public static void main(String[] args) {
        visits();
        exchanges();
        whoHasRung();
        look();
        amended();
        givenOut();
        kept();
        chains();
        likely();
        generations();
        due.end();
    }

    private static void is(String call, long got, long want) {
        due.is(call, got, want);
    }

    /** Houses at PLACES 0, 1, .. that bear 10, people at PLACE 0 with that purse. */
    private static BellHeirs with(int houses, int people, int purse) {
        BellHeirs x = new BellHeirs();
        for (int i = 0; i < houses; i++) {
            x.house(i, 10);
        }
        for (int i = 0; i < people; i++) {
            x.person(0, 10 * i, purse);
        }
        return x;
    }

    private static void row(String call, BellHeirs x, int person, int n, int... houses) {
        is(call, x.visits(person, n, -1), houses.length);
        for (int i = 0; i < houses.length; i++) {
            is(call + ", the " + i + "-th", x.visits(person, n, i), houses[i]);
        }
        is(call + ", behind the last", x.visits(person, n, houses.length), -1);
    }

    // ---------------------------------------------------------------- VISITS

    private static void visits() {
        visitsNone();
        visitsWithinSteps();
        visitsWithLeft();
        visitsMostThenFewest();
        visitsFirstRow();
        visitsOfAll();
    }

    /** Promise 26: n STEPS 0 .. 99; (i NONE), the i-th. NONE; of a PERSON who lives. */
    private static void visitsNone() {
        BellHeirs x = with(2, 2, 0);
        x.right(0, 0, 1);
        x.right(0, 1, 1);
        is("26 n -1", x.visits(0, -1, -1), -1);
        is("26 n 0", x.visits(0, 0, -1), 1);
        is("26 n 99", x.visits(0, 99, -1), 2);
        is("26 n 100", x.visits(0, 100, -1), -1);
        is("26 n least", x.visits(0, LOW, -1), -1);
        is("26 n greatest", x.visits(0, HIGH, -1), -1);
        is("26 person -1", x.visits(-1, 9, -1), -1);
        is("26 person 1", x.visits(1, 9, -1), 0);
        is("26 person 1", x.visits(1, 9, 0), -1);
        is("26 person 2", x.visits(2, 9, -1), -1);
        is("26 person least", x.visits(LOW, 9, -1), -1);
        is("26 i -2", x.visits(0, 9, -2), -1);
        is("26 i 0", x.visits(0, 9, 0), 0);
        is("26 i 1", x.visits(0, 9, 1), 1);
        is("26 i 2", x.visits(0, 9, 2), -1);
        is("26 i least", x.visits(0, 9, LOW), -1);
        is("26 i greatest", x.visits(0, 9, HIGH), -1);
        x.die(0);
        is("26 dead", x.visits(0, 9, -1), -1);
        BellHeirs y = with(0, 1, 0);
        is("26 no houses", y.visits(0, 0, -1), 0);
        is("26 no houses", y.visits(0, 99, 0), -1);
    }

    /** in n STEPS: from HOME through PLACES of HOUSES. */
    private static void visitsWithinSteps() {
        BellHeirs x = new BellHeirs();
        x.house(3, 0);
        x.house(8, 0);
        x.house(24, 0);
        x.person(0, 0, 0);
        for (int h = 0; h < 3; h++) {
            x.right(0, h, 1);
        }
        row("26 two steps", x, 0, 2);
        row("26 three steps", x, 0, 3, 0);
        row("26 four steps", x, 0, 4, 0, 1);
        row("26 seven steps", x, 0, 7, 0, 1);
        row("26 eight steps", x, 0, 8, 0, 1, 2);
        row("26 ninety-nine steps", x, 0, 99, 0, 1, 2);
    }

    /** of each of which it has LEFT 1 or more. */
    private static void visitsWithLeft() {
        BellHeirs x = with(2, 1, 0);
        row("26 no rights", x, 0, 9);
        x.right(0, 0, 2);
        x.right(0, 1, 1);
        row("26 both", x, 0, 9, 0, 1);
        x.ring(0, 0);
        row("26 one left", x, 0, 9, 0, 1);
        x.ring(0, 0);
        row("26 none left", x, 0, 9, 1);
        x.pass();
        row("26 next year", x, 0, 9, 0, 1);
    }

    /** the most HOUSES, then the fewest STEPS. */
    private static void visitsMostThenFewest() {
        BellHeirs x = new BellHeirs();
        x.house(4, 0);
        x.house(1, 0);
        x.house(2, 0);
        x.person(0, 0, 0);
        for (int h = 0; h < 3; h++) {
            x.right(0, h, 1);
        }
        row("26 the nearest", x, 0, 1, 1);
        row("26 two near ones, not the far one", x, 0, 3, 1, 2);
        row("26 all, the shortest way", x, 0, 4, 1, 2, 0);
        row("26 all, the shortest way", x, 0, 99, 1, 2, 0);
    }

    /** the first as a row; HOUSES, unlike ones. */
    private static void visitsFirstRow() {
        BellHeirs x = new BellHeirs();
        x.house(13, 0);
        x.house(11, 0);
        x.house(11, 0);
        x.person(12, 0, 0);
        x.right(0, 0, 9);
        row("26 one, though rights are many", x, 0, 99, 0);
        x.right(0, 1, 1);
        row("26 either way as far", x, 0, 99, 0, 1);
        row("26 one step", x, 0, 1, 0);
        x.right(0, 2, 1);
        row("26 two at one place", x, 0, 1, 1, 2);
        row("26 not all", x, 0, 2, 1, 2);
        row("26 all, either way as far", x, 0, 3, 0, 1, 2);
    }

    /** HOUSES 0 .. 5: all six in the greatest corners. */
    private static void visitsOfAll() {
        BellHeirs x = new BellHeirs();
        int[] places = {24, 0, 24, 0, 24, 0};
        for (int h = 0; h < 6; h++) {
            x.house(places[h], 0);
        }
        for (int p = 0; p < 8; p++) {
            x.person(0, 0, 0);
        }
        for (int h = 0; h < 6; h++) {
            x.right(7, h, 1);
        }
        row("26 six", x, 7, 99, 1, 3, 5, 0, 2, 4);
        row("26 six", x, 7, 8, 1, 3, 5, 0, 2, 4);
        row("26 three", x, 7, 7, 1, 3, 5);
        row("26 three", x, 7, 0, 1, 3, 5);
    }

    // ---------------------------------------------------------------- EXCHANGE

    private static void exchanges() {
        exchangeNone();
        exchangeWithLeft();
        exchangeNotOneself();
        exchangeGivesJustIfItGets();
        exchangeOneEach();
        exchangeOfTheLiving();
        exchangeMost();
        exchangeFirstRow();
        exchangeOfEight();
        exchangeOfFewerThanAhead();
    }

    private static void givers(String call, BellHeirs x, int... row) {
        int many = 0;
        for (int p = 0; p < row.length; p++) {
            is(call + ", who gives to " + p, x.exchange(1 + p), row[p]);
            many += row[p] == 100 ? 0 : 1;
        }
        is(call + ", how many", x.exchange(0), many);
        is(call + ", one more than there are", x.exchange(1 + row.length), -1);
    }

    /** Promise 27: how many people (what 0), who gives to PERSON p (1 + p). NONE. */
    private static void exchangeNone() {
        BellHeirs x = new BellHeirs();
        givers("27 nobody", x);
        is("27 what -1", x.exchange(-1), -1);
        is("27 what least", x.exchange(LOW), -1);
        is("27 what greatest", x.exchange(HIGH), -1);
        x.person(0, 0, 0);
        givers("27 one", x, 100);
        x.house(0, 0);
        x.want(0, 0);
        givers("27 one who wants", x, 100);
    }

    /** who gives it has LEFT 1 or more there. */
    private static void exchangeWithLeft() {
        BellHeirs x = with(2, 2, 0);
        x.want(0, 0);
        x.want(1, 1);
        x.right(1, 0, 2);
        givers("27 0 has nothing to give", x, 100, 100);
        x.right(0, 1, 1);
        givers("27 both", x, 1, 0);
        x.ring(1, 0);
        givers("27 one left", x, 1, 0);
        x.ring(1, 0);
        givers("27 none left", x, 100, 100);
        x.pass();
        x.want(1, 0);
        givers("27 of another house", x, 100, 100);
        x.want(1, -1);
        givers("27 one wants nothing", x, 100, 100);
    }

    /** is another one than who gets it. */
    private static void exchangeNotOneself() {
        BellHeirs x = with(1, 2, 0);
        x.want(0, 0);
        x.right(0, 0, 9);
        givers("27 not from oneself", x, 100, 100);
        x.want(1, 0);
        x.right(1, 0, 9);
        givers("27 from one another", x, 1, 0);
    }

    /** each one gives just if it gets. */
    private static void exchangeGivesJustIfItGets() {
        BellHeirs x = with(1, 3, 0);
        x.want(0, 0);
        x.right(1, 0, 9);
        x.right(2, 0, 9);
        givers("27 1 and 2 get nothing", x, 100, 100, 100);
        x.want(1, 0);
        givers("27 0 gives nothing", x, 100, 100, 100);
        x.want(2, 0);
        givers("27 1 and 2", x, 100, 2, 1);
    }

    /** give one ring each: one with many LEFT gives one, too. */
    private static void exchangeOneEach() {
        BellHeirs x = with(2, 3, 0);
        x.want(0, 0);
        x.want(1, 1);
        x.want(2, 0);
        x.right(0, 1, 9);
        x.right(2, 1, 9);
        x.right(1, 0, 9);
        givers("27 1 gives but once", x, 1, 0, 100);
    }

    /** people who live. */
    private static void exchangeOfTheLiving() {
        BellHeirs x = with(1, 3, 0);
        for (int p = 0; p < 3; p++) {
            x.want(p, 0);
            x.right(p, 0, 1);
        }
        givers("27 all live", x, 1, 2, 0);
        x.die(1);
        givers("27 two live", x, 2, 100, 0);
        x.die(0);
        givers("27 one lives", x, 100, 100, 100);
    }

    /** the most people. */
    private static void exchangeMost() {
        // 0 and 1 could change at once, but all four can by 0 from 2, 2 from 1, 1 from 3, 3 from 0.
        BellHeirs x = with(4, 4, 0);
        x.want(0, 0);
        x.want(1, 1);
        x.want(2, 2);
        x.want(3, 3);
        x.right(1, 0, 1);
        x.right(2, 0, 1);
        x.right(0, 1, 1);
        x.right(3, 1, 1);
        x.right(1, 2, 1);
        x.right(0, 3, 1);
        givers("27 all four", x, 2, 3, 1, 0);
        x.right(0, 3, 0);
        givers("27 three", x, 2, 0, 1, 100);
        x.right(2, 0, 0);
        givers("27 two", x, 1, 0, 100, 100);
    }

    /** the first as a row of givers by people (100: none; lower ones ahead of none). */
    private static void exchangeFirstRow() {
        // 1 can change with 0 or with 2.
        BellHeirs x = with(3, 3, 0);
        x.want(0, 1);
        x.want(1, 0);
        x.want(2, 1);
        x.right(1, 1, 9);
        x.right(0, 0, 1);
        x.right(2, 0, 1);
        givers("27 with 0: lower ones ahead of none", x, 1, 0, 100);
        x.right(0, 0, 0);
        givers("27 with 2", x, 100, 2, 1);
        BellHeirs y = with(1, 5, 0);
        for (int p = 0; p < 5; p++) {
            y.want(p, 0);
            y.right(p, 0, 1);
        }
        givers("27 five", y, 1, 0, 3, 4, 2);
    }

    /** PEOPLE 0 .. 7. */
    private static void exchangeOfEight() {
        BellHeirs x = with(1, 8, 0);
        givers("27 nobody of eight", x, 100, 100, 100, 100, 100, 100, 100, 100);
        for (int p = 0; p < 8; p++) {
            x.want(p, 0);
            x.right(p, 0, 1);
        }
        givers("27 eight", x, 1, 0, 3, 2, 5, 4, 7, 6);
        x.want(7, -1);
        givers("27 all but the last", x, 1, 0, 3, 2, 5, 6, 4, 100);
        x.want(7, 0);
        x.want(0, -1);
        givers("27 all but the first", x, 100, 2, 1, 4, 3, 6, 7, 5);
        x.want(0, 0);
        is("27 what 9", x.exchange(9), -1);
        is("27 what 100", x.exchange(100), -1);
    }

    /** Each call anew: behind back() to fewer people nothing of those who are gone counts. */
    private static void exchangeOfFewerThanAhead() {
        BellHeirs x = with(1, 1, 0);
        x.image(0);
        for (int p = 1; p < 8; p++) {
            x.person(0, 0, 0);
        }
        for (int p = 0; p < 8; p++) {
            x.want(p, 0);
            x.right(p, 0, 1);
        }
        is("27 eight", x.exchange(0), 8);
        x.back(0);
        givers("27 one", x, 100);
        x.person(0, 0, 0);
        givers("27 two", x, 100, 100);
        for (int p = 0; p < 2; p++) {
            x.want(p, 0);
            x.right(p, 0, 1);
        }
        givers("27 two", x, 1, 0);
    }

    // ---------------------------------------------------------------- WHO can have RUNG, LOOK

    private static void whoHasRung() {
        whoBySteps();
        whoByStepsBetween();
        whoByLeft();
        whoLives();
        whoOfEight();
    }

    /** never more STEPS than told (the first one behind the beginning at HOME). */
    private static void whoBySteps() {
        BellHeirs x = new BellHeirs();
        x.house(12, 0);
        int[] homes = {12, 13, 14, 18, 24};
        int[] steps = {0, 1, 2, 2, 4};
        for (int p = 0; p < 5; p++) {
            x.person(homes[p], 0, 0);
            x.right(p, 0, 1);
        }
        for (int told = 0; told <= 5; told++) {
            x.forget();
            x.clue(0, told);
            int bits = 0;
            for (int p = 0; p < 5; p++) {
                bits |= steps[p] <= told ? 1 << p : 0;
            }
            is("30 told " + told, x.who(), bits);
        }
        x.forget();
        x.clue(0, 99);
        is("30 told 99", x.who(), 31);
    }

    /** so many STEPS behind the one ahead. */
    private static void whoByStepsBetween() {
        BellHeirs x = new BellHeirs();
        x.house(0, 0);
        x.house(24, 0);
        x.person(24, 0, 0);
        x.right(0, 0, 9);
        x.right(0, 1, 9);
        x.clue(1, 0);
        is("30 at home", x.who(), 1);
        x.clue(0, 8);
        is("30 eight told", x.who(), 1);
        x.clue(0, 0);
        is("30 there still", x.who(), 1);
        x.clue(1, 7);
        is("30 seven told", x.who(), 0);
        x.forget();
        x.clue(0, 8);
        x.clue(1, 8);
        x.clue(0, 7);
        is("30 seven told", x.who(), 0);
    }

    /** with LEFT for all of them (a HOUSE told twice needs two). */
    private static void whoByLeft() {
        BellHeirs x = with(2, 3, 0);
        for (int p = 0; p < 3; p++) {
            x.right(p, 0, p);
            x.right(p, 1, 9);
        }
        is("30 no clue", x.who(), 7);
        x.clue(0, 99);
        is("30 needs one", x.who(), 6);
        x.clue(1, 99);
        is("30 needs one", x.who(), 6);
        x.clue(0, 99);
        is("30 needs two", x.who(), 4);
        x.ring(2, 0);
        is("30 one left", x.who(), 0);
        x.pass();
        is("30 next year", x.who(), 4);
        x.clue(0, 99);
        is("30 needs three", x.who(), 0);
        x.right(0, 0, 3);
        is("30 has three", x.who(), 1);
        x.clue(0, 99);
        x.clue(0, 99);
        x.right(1, 0, 5);
        is("30 needs five", x.who(), 2);
        x.right(1, 0, 4);
        is("30 has four", x.who(), 0);
    }

    /** one who lives. */
    private static void whoLives() {
        BellHeirs x = with(1, 3, 0);
        is("30 all", x.who(), 7);
        x.die(1);
        is("30 two", x.who(), 5);
        x.die(0);
        x.die(2);
        is("30 nobody", x.who(), 0);
        is("30 no people", new BellHeirs().who(), 0);
    }

    /** people, as bits: PEOPLE 0 .. 7; CLUES, 6 at most. */
    private static void whoOfEight() {
        BellHeirs x = with(1, 8, 0);
        is("30 eight", x.who(), 255);
        for (int i = 0; i < 6; i++) {
            x.clue(0, 0);
        }
        is("30 six needed", x.who(), 0);
        x.right(7, 0, 6);
        x.right(6, 0, 5);
        is("30 six needed", x.who(), 128);
    }

    private static void looks(String call, BellHeirs x, int house, int most) {
        is(call, x.look(0), house);
        is(call + ", at most", x.look(1), most);
        is(call + ", what -1", x.look(-1), -1);
        is(call + ", what 2", x.look(2), -1);
    }

    /** Promise 31: NONE (no HOUSES, nobody); the more of both (LEFT is 1 or more, or not) is least; the lowest. */
    private static void look() {
        BellHeirs x = new BellHeirs();
        looks("31 neither", x, -1, -1);
        x.person(0, 0, 0);
        looks("31 no houses", x, -1, -1);
        x.house(0, 0);
        looks("31 one of each", x, 0, 1);
        x.die(0);
        looks("31 nobody lives", x, -1, -1);
        BellHeirs y = new BellHeirs();
        y.house(0, 0);
        looks("31 nobody", y, -1, -1);
        BellHeirs z = with(3, 4, 0);
        looks("31 the lowest of alike ones", z, 0, 4);
        z.right(0, 2, 1);
        looks("31 three of four", z, 2, 3);
        z.right(1, 1, 1);
        looks("31 the lowest of alike ones", z, 1, 3);
        z.right(1, 2, 2);
        looks("31 two of four", z, 2, 2);
        z.ring(1, 2);
        looks("31 one left", z, 2, 2);
        z.ring(1, 2);
        looks("31 none left", z, 1, 3);
        z.right(2, 1, 1);
        z.right(3, 1, 1);
        looks("31 three of four, the other way", z, 1, 3);
        z.right(0, 1, 1);
        looks("31 all of four", z, 2, 3);
        z.clue(1, 99);
        looks("31 of those who can have", z, 2, 3);
        z.right(0, 1, 0);
        looks("31 of those who can have", z, 0, 3);
        z.clue(1, 99);
        looks("31 nobody can have", z, -1, -1);
        z.clue(0, 99);
        looks("31 nobody can have", z, -1, -1);
        BellHeirs eight = with(6, 8, 0);
        looks("31 eight", eight, 0, 8);
        for (int p = 0; p < 4; p++) {
            eight.right(p, 5, 1);
        }
        looks("31 eight", eight, 5, 4);
        eight.right(7, 1, 1);
        eight.right(0, 2, 1);
        eight.right(1, 2, 1);
        eight.right(2, 2, 1);
        looks("31 the least is the last", eight, 5, 4);
        eight.right(0, 5, 0);
        eight.right(1, 5, 0);
        looks("31 the least is between", eight, 2, 5);
        for (int p = 0; p < 4; p++) {
            eight.right(p, 0, 1);
        }
        looks("31 the least is the first", eight, 0, 4);
        eight.right(0, 5, 1);
        eight.right(1, 5, 1);
        looks("31 the first and the last are alike", eight, 0, 4);
    }

    // ---------------------------------------------------------------- AMENDED, GIVEN OUT

    private static void amended() {
        amendNone();
        amendBears();
        amendFewest();
        amendLowest();
    }

    /** Promise 32: NONE. */
    private static void amendNone() {
        BellHeirs x = with(2, 1, 0);
        x.right(0, 1, 11);
        is("32 house -1", x.amend(-1, 0), -1);
        is("32 house 2", x.amend(2, 0), -1);
        is("32 house least", x.amend(LOW, 1), -1);
        is("32 house greatest", x.amend(HIGH, 1), -1);
        is("32 what -1", x.amend(1, -1), -1);
        is("32 what 2", x.amend(1, 2), -1);
        is("32 how many", x.amend(1, 0), 1);
        is("32 who", x.amend(1, 1), 1);
        is("32 the other house", x.amend(0, 0), 0);
        BellHeirs y = new BellHeirs();
        y.house(0, 0);
        is("32 no people", y.amend(0, 0), 0);
        is("32 no people", y.amend(0, 1), 0);
    }

    private static void struck(int bears, int bits, int... rights) {
        BellHeirs x = new BellHeirs();
        x.house(0, bears);
        for (int p = 0; p < rights.length; p++) {
            x.person(0, 0, 0);
            x.right(p, 0, rights[p]);
        }
        is("32 who, bears " + bears, x.amend(0, 1), bits);
        is("32 how many, bears " + bears, x.amend(0, 0), Integer.bitCount(bits));
    }

    /** all RIGHTS to it together are no more than it BEARS. */
    private static void amendBears() {
        struck(16, 0, 5, 5, 5);
        struck(15, 0, 5, 5, 5);
        struck(14, 1, 5, 5, 5);
        struck(10, 1, 5, 5, 5);
        struck(9, 3, 5, 5, 5);
        struck(5, 3, 5, 5, 5);
        struck(4, 7, 5, 5, 5);
        struck(0, 7, 5, 5, 5);
        struck(0, 0, 0, 0, 0);
        struck(0, 2, 0, 1, 0);
        struck(99, 0, 99);
        struck(98, 1, 99);
        struck(99, 2, 0, 99, 99);
        struck(99, 127, 99, 99, 99, 99, 99, 99, 99, 99);
        struck(98, 255, 99, 99, 99, 99, 99, 99, 99, 99);
        struck(0, 255, 1, 1, 1, 1, 1, 1, 1, 1);
    }

    /** the fewest people. */
    private static void amendFewest() {
        struck(5, 2, 1, 9);
        struck(9, 1, 1, 9);
        struck(8, 2, 1, 9);
        struck(10, 8, 3, 3, 3, 9);
        struck(9, 8, 3, 3, 3, 9);
        struck(8, 9, 3, 3, 3, 9);
    }

    /** the lowest as bits. */
    private static void amendLowest() {
        struck(10, 1, 4, 4, 4);
        struck(10, 2, 1, 4, 4, 4);
        struck(10, 3, 6, 6, 5, 5);
        struck(10, 5, 6, 1, 6, 5, 4);
        struck(0, 0, 0);
    }

    private static void givenOut() {
        givenNone();
        givenOneAfterTheOther();
        givenAlike();
        givenWithoutRights();
    }

    /** Promise 33: how many of n rings 0 .. 99 a PERSON gets. NONE. */
    private static void givenNone() {
        BellHeirs x = with(2, 2, 0);
        x.right(1, 1, 99);
        is("33 n -1", x.given(1, -1, 1), -1);
        is("33 n 0", x.given(1, 0, 1), 0);
        is("33 n 1", x.given(1, 1, 1), 1);
        is("33 n 98", x.given(1, 98, 1), 98);
        is("33 n 99", x.given(1, 99, 1), 99);
        is("33 n 100", x.given(1, 100, 1), -1);
        is("33 n least", x.given(1, LOW, 1), -1);
        is("33 n greatest", x.given(1, HIGH, 1), -1);
        is("33 house -1", x.given(-1, 1, 1), -1);
        is("33 house 2", x.given(2, 1, 1), -1);
        is("33 person -1", x.given(1, 1, -1), -1);
        is("33 person 2", x.given(1, 1, 2), -1);
        is("33 person least", x.given(1, 1, LOW), -1);
        is("33 house greatest", x.given(HIGH, 1, 1), -1);
        x.right(1, 1, 1);
        is("33 more than its rights", x.given(1, 99, 1), 99);
    }

    /** one after the other to that PERSON whose RIGHTS there by one more than it has got are greatest. */
    private static void givenOneAfterTheOther() {
        // 7, 5, 3: 7 by 1, 5 by 1, 7 by 2, 3 by 1, 5 by 2, 7 by 3, 7 by 4, 5 by 3, 3 by 2, 7 by 5, ..
        int[] due = {0, 1, 0, 2, 1, 0, 0, 1, 2, 0};
        BellHeirs x = with(1, 3, 0);
        x.right(0, 0, 7);
        x.right(1, 0, 5);
        x.right(2, 0, 3);
        int[] got = new int[3];
        for (int n = 0; n <= due.length; n++) {
            for (int p = 0; p < 3; p++) {
                is("33 of " + n + " to " + p, x.given(0, n, p), got[p]);
            }
            if (n < due.length) {
                got[due[n]]++;
            }
        }
        x.ring(0, 0);
        x.ring(0, 0);
        is("33 RIGHTS, whatever is USED", x.given(0, 1, 0), 1);
        // 99 by 50 is not 2: it is below 2, and below 99 by 49.
        BellHeirs y = with(1, 2, 0);
        y.right(0, 0, 99);
        y.right(1, 0, 2);
        is("33 by 49 ahead of 2", y.given(0, 49, 0), 49);
        is("33 2 ahead of by 50", y.given(0, 50, 1), 1);
        is("33 by 98", y.given(0, 99, 0), 98);
        is("33 by 99 alike 1: the lowest", y.given(0, 99, 1), 1);
    }

    /** the lowest of alike ones. */
    private static void givenAlike() {
        BellHeirs x = with(1, 8, 0);
        for (int p = 0; p < 8; p++) {
            x.right(p, 0, 7);
        }
        for (int n = 0; n <= 24; n++) {
            for (int p = 0; p < 8; p++) {
                is("33 alike, " + n, x.given(0, n, p), (n + 7 - p) / 8);
            }
        }
        BellHeirs y = with(1, 2, 0);
        y.right(0, 0, 2);
        y.right(1, 0, 4);
        is("33 4 ahead of 2", y.given(0, 1, 1), 1);
        is("33 4 by 2 alike 2: the lowest", y.given(0, 2, 0), 1);
        is("33 then 4 by 2", y.given(0, 3, 1), 2);
    }

    /** those without RIGHTS get none. */
    private static void givenWithoutRights() {
        BellHeirs x = with(1, 3, 0);
        for (int p = 0; p < 3; p++) {
            is("33 no rights at all", x.given(0, 99, p), 0);
        }
        x.right(2, 0, 1);
        is("33", x.given(0, 99, 0), 0);
        is("33", x.given(0, 99, 1), 0);
        is("33", x.given(0, 99, 2), 99);
        x.die(2);
        is("33 dead", x.given(0, 99, 2), 0);
    }

    // ---------------------------------------------------------------- KEPT

    private static void kept() {
        keepNone();
        keepNoughtAtLeast();
        keepFirstRow();
        keepYearGoesOn();
        keepWearyAsNow();
        keepAtItsGreatest();
    }

    private static void uses(String call, BellHeirs x, int k, int most, int... row) {
        is(call, x.keep(0, k, row.length, -1), most);
        for (int i = 0; i < row.length; i++) {
            is(call + ", the " + i + "-th", x.keep(0, k, row.length, i), row[i]);
        }
        is(call + ", behind the last", x.keep(0, k, row.length, row.length), -1);
        is(call + ", ahead of NONE", x.keep(0, k, row.length, -2), -1);
    }

    private static BellHeirs worth(String sum) {
        BellHeirs x = with(1, 1, 0);
        is("16 " + sum, Due.law(x, "worth " + sum), 0);
        x.force(0);
        return x;
    }

    /** Promise 34: k rings 0 .. 20, n YEARS 1 .. 8: the most (i NONE), how many in the i-th. NONE. */
    private static void keepNone() {
        BellHeirs x = with(1, 1, 0);
        is("34 k -1", x.keep(0, -1, 1, -1), -1);
        is("34 k 0", x.keep(0, 0, 1, -1), 0);
        is("34 k 1", x.keep(0, 1, 1, -1), 10);
        is("34 k 20", x.keep(0, 20, 2, -1), 110);
        is("34 k 21", x.keep(0, 21, 2, -1), -1);
        is("34 k least", x.keep(0, LOW, 1, -1), -1);
        is("34 k greatest", x.keep(0, HIGH, 1, -1), -1);
        is("34 n 0", x.keep(0, 1, 0, -1), -1);
        is("34 n -1", x.keep(0, 1, -1, -1), -1);
        is("34 n 8", x.keep(0, 8, 8, -1), 80);
        is("34 n 9", x.keep(0, 8, 9, -1), -1);
        is("34 n least", x.keep(0, 1, LOW, -1), -1);
        is("34 n greatest", x.keep(0, 1, HIGH, -1), -1);
        is("34 house -1", x.keep(-1, 1, 1, -1), -1);
        is("34 house 1", x.keep(1, 1, 1, -1), -1);
        is("34 i 7 of 8", x.keep(0, 8, 8, 7), 1);
        is("34 i 8 of 8", x.keep(0, 8, 8, 8), -1);
        is("34 i -2", x.keep(0, 8, 8, -2), -1);
        is("34 i least", x.keep(0, 8, 8, LOW), -1);
        is("34 i greatest", x.keep(0, 8, 8, HIGH), -1);
    }

    /** each more in that YEAR for one less than that ahead (0 at least). */
    private static void keepNoughtAtLeast() {
        uses("34 worth 10", with(1, 1, 0), 9, 54, 9);
        uses("34 worth 10", with(1, 1, 0), 10, 55, 10);
        uses("34 worth 10, the eleventh is for 0", with(1, 1, 0), 11, 55, 10);
        uses("34 worth 0", worth("0"), 5, 0, 0);
        uses("34 worth 1", worth("1"), 5, 1, 1);
        uses("34 worth 2", worth("2"), 5, 3, 2);
        uses("34 worth 2", worth("2"), 2, 3, 2);
        uses("34 worth 2", worth("2"), 1, 2, 1);
        uses("34 worth 99", worth("99"), 20, 99 * 20 - 190, 20);
    }

    /** the first row of how many by YEARS. */
    private static void keepFirstRow() {
        uses("34 alike: the last one", with(1, 1, 0), 1, 10, 0, 1);
        uses("34 alike", with(1, 1, 0), 2, 20, 1, 1);
        uses("34 alike", with(1, 1, 0), 3, 29, 1, 2);
        uses("34 alike", with(1, 1, 0), 4, 39, 1, 1, 2);
        uses("34 for 0: none is used", worth("0"), 20, 0, 0, 0, 0);
        uses("34 rings for 0 are not used", worth("1"), 20, 3, 1, 1, 1);
        uses("34 none", with(1, 1, 0), 0, 0, 0, 0);
    }

    /** for what it is WORTH then (YEAR goes on): from now on. */
    private static void keepYearGoesOn() {
        BellHeirs x = worth("year-989");
        x.terms(0, 992);
        // 3, 4, .. 10
        uses("34 the last years", x, 1, 10, 0, 0, 0, 0, 0, 0, 0, 1);
        uses("34 the last years", x, 2, 19, 0, 0, 0, 0, 0, 0, 0, 2);
        uses("34 the last years", x, 3, 28, 0, 0, 0, 0, 0, 0, 1, 2);
        uses("34 the first year is now", x, 1, 3, 1);
        uses("34 then the next one", x, 1, 4, 0, 1);
        BellHeirs y = worth("20-year");
        uses("34 now", y, 1, 20, 1, 0);
        uses("34 now", y, 2, 39, 1, 1);
        uses("34 now", y, 3, 58, 2, 1);
        is("34 on paper", y.count(13), 0);
    }

    /** WEARY as now. */
    private static void keepWearyAsNow() {
        BellHeirs x = worth("weary*3+mood");
        x.terms(2, 1);
        x.right(0, 0, 9);
        x.ring(0, 0);
        x.ring(0, 0);
        uses("34 weary 2", x, 2, 14, 1, 1);
        is("34 on paper", x.at(0, 2), 2);
        x.pass();
        uses("34 weary 0", x, 2, 2, 1, 1);
    }

    /** k 20 in n 8, WORTH 99. */
    private static void keepAtItsGreatest() {
        // Of eight years' rings for 99, 98, 97 all but the last four for 97: those in the last years.
        uses("34 greatest", worth("99"), 20, 8 * 99 + 8 * 98 + 4 * 97, 2, 2, 2, 2, 3, 3, 3, 3);
        uses("34 one fewer", worth("99"), 19, 8 * 99 + 8 * 98 + 3 * 97, 2, 2, 2, 2, 2, 3, 3, 3);
    }

    // ---------------------------------------------------------------- CHAIN

    private static void chains() {
        chainNone();
        chainNeedsOneLeft();
        chainPurse();
        chainRights();
        chainBarredOrDead();
        chainLeftAsNow();
        chainLeastThenFewest();
        chainLowest();
        chainOfEight();
    }

    private static void buyers(String call, BellHeirs x, int from, int to, int cost, int... row) {
        is(call, x.chain(from, to, 0, -1), cost);
        for (int i = 0; i < row.length; i++) {
            is(call + ", the " + i + "-th", x.chain(from, to, 0, i), row[i]);
        }
        is(call + ", behind the last", x.chain(from, to, 0, row.length), -1);
    }

    private static BellHeirs chained(int people, int purse, String law) {
        BellHeirs x = with(1, people, purse);
        x.right(0, 0, 1);
        is("16 " + law, Due.law(x, law), 0);
        x.force(0);
        return x;
    }

    /** Promise 35: NONE (none; one PERSON; nothing LEFT). */
    private static void chainNone() {
        BellHeirs x = with(2, 3, 5);
        x.right(0, 0, 1);
        is("35 one person", x.chain(0, 0, 0, -1), -1);
        is("35 one person", x.chain(0, 0, 0, 0), -1);
        is("35 nothing left", x.chain(1, 0, 0, -1), -1);
        is("35 nothing left there", x.chain(0, 1, 1, -1), -1);
        is("35 from -1", x.chain(-1, 1, 0, -1), -1);
        is("35 from 3", x.chain(3, 1, 0, -1), -1);
        is("35 to -1", x.chain(0, -1, 0, -1), -1);
        is("35 to 2", x.chain(0, 2, 0, -1), 5);
        is("35 to 3", x.chain(0, 3, 0, -1), -1);
        is("35 house -1", x.chain(0, 1, -1, -1), -1);
        is("35 house 2", x.chain(0, 1, 2, -1), -1);
        is("35 far ones", x.chain(LOW, HIGH, LOW, HIGH), -1);
        is("35 i -2", x.chain(0, 1, 0, -2), -1);
        is("35 i 0", x.chain(0, 1, 0, 0), 1);
        is("35 i 1", x.chain(0, 1, 0, 1), -1);
        is("35 i least", x.chain(0, 1, 0, LOW), -1);
        is("35 i greatest", x.chain(0, 1, 0, HIGH), -1);
        BellHeirs y = chained(3, 5, "bars");
        buyers("35 none", y, 0, 1, -1);
        is("35 none", y.chain(0, 1, 0, -2), -1);
    }

    /** from one who has one LEFT; others need none. */
    private static void chainNeedsOneLeft() {
        BellHeirs x = chained(3, 50, "costs 9;bars if person=0 and to=2");
        x.right(0, 0, 2);
        buyers("35 two left", x, 0, 2, 18, 1, 2);
        x.ring(0, 0);
        buyers("35 one left", x, 0, 2, 18, 1, 2);
        x.ring(0, 0);
        buyers("35 none left", x, 0, 2, -1);
        is("35 on paper", x.of(1, 2), 50);
    }

    /** PURSE as now: what it COSTS or more, whatever was got on the way. */
    private static void chainPurse() {
        int[] costs = {49, 50, 51};
        for (int cost : costs) {
            BellHeirs x = chained(2, 50, "costs " + cost);
            buyers("35 costs " + cost, x, 0, 1, cost <= 50 ? cost : -1, cost <= 50 ? new int[] {1} : new int[0]);
            BellHeirs y = chained(3, 50, "costs 0;bars if person=0 and to=2;costs " + cost + " if to=1");
            buyers("35 on the way, " + cost, y, 0, 2, cost <= 50 ? cost : -1, cost <= 50 ? new int[] {1, 2} : new int[0]);
        }
        BellHeirs z = chained(3, 50, "costs 30;bars if person=0 and to=2");
        buyers("35 each of its own purse", z, 0, 2, 60, 1, 2);
    }

    /** RIGHTS as now: below 99. */
    private static void chainRights() {
        BellHeirs x = chained(3, 50, "costs 1;bars if person=0 and to=2");
        x.right(2, 0, 98);
        buyers("35 98", x, 0, 2, 2, 1, 2);
        x.right(2, 0, 99);
        buyers("35 99", x, 0, 2, -1);
        x.right(2, 0, 0);
        x.right(1, 0, 98);
        buyers("35 98 on the way", x, 0, 2, 2, 1, 2);
        x.right(1, 0, 99);
        buyers("35 99 on the way", x, 0, 2, -1);
    }

    /** not BARRED; one who is DEAD can't buy. */
    private static void chainBarredOrDead() {
        BellHeirs x = chained(4, 50, "costs 1;bars if person=0 and to=3;bars if person=1 and to=3");
        buyers("35 by 2", x, 0, 3, 2, 2, 3);
        x.die(2);
        buyers("35 2 is dead", x, 0, 3, -1);
        buyers("35 to one who is dead", x, 0, 2, -1);
        x.force(-1);
        buyers("35 nobody is barred", x, 0, 3, 5, 3);
        x.die(0);
        buyers("35 from one who is dead", x, 0, 3, -1);
    }

    /** "left" as now. */
    private static void chainLeftAsNow() {
        BellHeirs x = chained(3, 50, "costs left*10+1;bars if person=0 and to=2");
        buyers("35 left 1, then 0", x, 0, 2, 12, 1, 2);
        x.right(1, 0, 3);
        buyers("35 left 1, then 3", x, 0, 2, 42, 1, 2);
        BellHeirs y = chained(3, 50, "costs purse;bars if person=0 and to=2");
        buyers("35 purse as now", y, 0, 2, 100, 1, 2);
    }

    /** the least that they cost together, then the fewest sales. */
    private static void chainLeastThenFewest() {
        // By 1 it costs 10 and 10.
        BellHeirs x = chained(3, 50, "costs 21;costs 10 if to=1 or person=1");
        buyers("35 one costs 21", x, 0, 2, 20, 1, 2);
        BellHeirs y = chained(3, 50, "costs 20;costs 10 if to=1 or person=1");
        buyers("35 one costs 20", y, 0, 2, 20, 2);
        BellHeirs z = chained(3, 50, "costs 19;costs 10 if to=1 or person=1");
        buyers("35 one costs 19", z, 0, 2, 19, 2);
        BellHeirs free = chained(8, 0, "costs 0");
        buyers("35 all are free", free, 0, 7, 0, 7);
    }

    /** at each sale, of such rows, the lowest PERSON. */
    private static void chainLowest() {
        BellHeirs x = chained(5, 50, "costs 1;bars if person=0 and to=4");
        buyers("35 by 1, 2 or 3", x, 0, 4, 2, 1, 4);
        x.right(1, 0, 99);
        buyers("35 by 2 or 3", x, 0, 4, 2, 2, 4);
        BellHeirs y = chained(6, 50, "costs 1;bars if person=0 and to>2;bars if person>0 and person<3 and to=5;bars if person=1 and to=3");
        buyers("35 by 1 and 4, or by 2 and 3", y, 0, 5, 3, 1, 4, 5);
        BellHeirs z = new BellHeirs();
        z.house(0, 0);
        for (int p = 0; p < 4; p++) {
            z.person(0, 0, 50);
        }
        z.right(3, 0, 1);
        Due.law(z, "bars if person=3 and to=0");
        z.force(0);
        buyers("35 to one who is lower", z, 3, 0, 10, 1, 0);
    }

    /** PEOPLE 0 .. 7: the longest CHAIN, the dearest. */
    private static void chainOfEight() {
        BellHeirs x = chained(8, 999, "costs 999;bars if to>person+1 or to<person");
        buyers("35 seven sales", x, 0, 7, 7 * 999, 1, 2, 3, 4, 5, 6, 7);
        is("35 i 7", x.chain(0, 7, 0, 7), -1);
        x.die(4);
        buyers("35 cut", x, 0, 7, -1);
        buyers("35 up to there", x, 0, 3, 3 * 999, 1, 2, 3);
    }

    // ---------------------------------------------------------------- LIKELY

    /** Promise 36: k 0 .. 20, n rings 0 .. 60. NONE; SLEEP of ten; each part is cut. */
    private static void likely() {
        BellHeirs x = new BellHeirs();
        is("36 k -1", x.likely(-1, 5), -1);
        is("36 k 0", x.likely(0, 5), WHOLE);
        is("36 k 20", x.likely(20, 20) > 0 ? 1 : 0, 1);
        is("36 k 21", x.likely(21, 21), -1);
        is("36 n -1", x.likely(0, -1), -1);
        is("36 n 0", x.likely(0, 0), WHOLE);
        is("36 n 0", x.likely(1, 0), 0);
        is("36 n 60", x.likely(0, 60), WHOLE);
        is("36 n 61", x.likely(0, 61), -1);
        is("36 least", x.likely(LOW, 5), -1);
        is("36 greatest", x.likely(HIGH, 5), -1);
        is("36 least", x.likely(5, LOW), -1);
        is("36 greatest", x.likely(5, HIGH), -1);
        for (int n = 0; n <= 20; n++) {
            is("36 more than rings", n == 20 ? 0 : x.likely(n + 1, n), 0);
        }
        for (int sleep = 0; sleep <= 10; sleep++) {
            x.terms(1, sleep);
            long all = WHOLE;
            for (int n = 1; n <= 20; n++) {
                // That all open: ten less SLEEP of ten, cut each time.
                all = all * (10 - sleep) / 10;
                is("36 all " + n + " open, sleep " + sleep, x.likely(n, n), all);
            }
            is("36 one of one", x.likely(1, 1), WHOLE / 10 * (10 - sleep));
            is("36 one of two", x.likely(1, 2), WHOLE / 100 * (100 - sleep * sleep));
            is("36 two of three", x.likely(2, 3), WHOLE / 1000 * ((10 - sleep) * (10 - sleep) * (10 + 2 * sleep)));
        }
        x.terms(1, 10);
        is("36 never", x.likely(1, 60), 0);
        is("36 none at least", x.likely(0, 60), WHOLE);
        x.terms(1, 0);
        is("36 always", x.likely(20, 60), WHOLE);
        is("36 always", x.likely(20, 20), WHOLE);
        is("36 always", x.likely(20, 19), 0);
    }

    // ---------------------------------------------------------------- GENERATIONS

    private static void generations() {
        generationsNone();
        generationsOfOne();
        generationsOfMany();
        generationsOnPaper();
        drawnNone();
    }

    /** with a SEED (0 .. 1,000,000), n 1 .. 60. */
    private static void generationsNone() {
        BellHeirs x = with(1, 1, 0);
        is("37 seed -1", x.generations(-1, 1), -1);
        is("37 seed 0", x.generations(0, 1), 0);
        is("37 seed 1000000", x.generations(1000000, 1), 0);
        is("37 seed 1000001", x.generations(1000001, 1), -1);
        is("37 seed least", x.generations(LOW, 1), -1);
        is("37 seed greatest", x.generations(HIGH, 1), -1);
        is("37 n 0", x.generations(0, 0), -1);
        is("37 n -1", x.generations(0, -1), -1);
        is("37 n 60", x.generations(0, 60), 0);
        is("37 n 61", x.generations(0, 61), -1);
        is("37 n least", x.generations(0, LOW), -1);
        is("37 n greatest", x.generations(0, HIGH), -1);
    }

    /** s becomes (s times 1103 and 12345) modulo 1,000,003. */
    private static long next(long s) {
        return (s * 1103 + 12345) % 1000003;
    }

    /** Each time (at YEAR 999 it ends): of one PERSON and one HOUSE, by hand. */
    private static void generationsOfOne() {
        int[] seeds = {0, 1, 2, 3, 4, 5, 6, 7, 8, 9, 10, 11, 12, 999990, 999991, 999992, 999993, 999994, 999995, 999996,
            999997, 999998, 999999, 1000000};
        int[] years = {0, 990, 996, 997, 998, 999};
        int[] times = {1, 2, 3, 59, 60};
        for (int year : years) {
            for (int n : times) {
                for (int seed : seeds) {
                    BellHeirs x = with(1, 1, 0);
                    x.right(0, 0, 3);
                    x.terms(0, year);
                    long s = seed;
                    int left = 3;
                    int rights = 3;
                    int opened = 0;
                    int now = year;
                    for (int i = 0; i < n && now < 999; i++) {
                        s = next(next(next(s)));
                        if (left > 0) {
                            left--;
                            opened++;
                        }
                        if (s % 8 == 0) {
                            rights = 0;
                            left = 0;
                        } else if (s % 8 == 1) {
                            now++;
                            left = rights;
                        }
                    }
                    String call = "37 seed " + seed + ", " + n + " times from " + year;
                    is(call, x.generations(seed, n), opened);
                    is(call + ", drawn", x.drawn(0, 0), rights);
                }
            }
        }
    }

    /** DRAWS of PEOPLE, of HOUSES, of 8: that PERSON RINGS there, if it can; then at 0 it DIES; at 1 the YEAR passes. */
    private static void generationsOfMany() {
        for (int people = 1; people <= 8; people++) {
            for (int houses = 1; houses <= 6; houses++) {
                // Each has one right to each house, and the next one inherits: a row of heirs.
                BellHeirs x = with(houses, people, 0);
                int[][] rights = new int[people][houses];
                int[][] used = new int[people][houses];
                boolean[] dead = new boolean[people];
                int[] weary = new int[houses];
                for (int p = 0; p < people; p++) {
                    if (people > 1) {
                        x.will(p, 1 << (p + 1) % people);
                    }
                    for (int h = 0; h < houses; h++) {
                        x.right(p, h, 20 + p);
                        rights[p][h] = 20 + p;
                    }
                }
                Due.law(x, "tires 4");
                x.force(0);
                long s = 1000 * people + houses;
                int seed = (int) s;
                int opened = 0;
                for (int i = 0; i < 60; i++) {
                    s = next(s);
                    int p = (int) (s % people);
                    s = next(s);
                    int h = (int) (s % houses);
                    s = next(s);
                    if (!dead[p] && used[p][h] < rights[p][h]) {
                        used[p][h]++;
                        opened += weary[h] < 10 ? 1 : 0;
                        weary[h] = Math.min(99, weary[h] + 4);
                    }
                    if (s % 8 == 0 && !dead[p]) {
                        dead[p] = true;
                        int heir = (p + 1) % people;
                        for (int k = 0; k < houses; k++) {
                            if (!dead[heir]) {
                                rights[heir][k] = Math.min(99, rights[heir][k] + rights[p][k]);
                            }
                            rights[p][k] = 0;
                        }
                    }
                    if (s % 8 == 1) {
                        used = new int[people][houses];
                        weary = new int[houses];
                    }
                }
                is("37 " + people + " people, " + houses + " houses", x.generations(seed, 60), opened);
                for (int p = 0; p < people; p++) {
                    for (int h = 0; h < houses; h++) {
                        is("38 " + people + " people, " + houses + " houses", x.drawn(p, h), rights[p][h]);
                    }
                }
            }
        }
    }

    /** on paper: nothing that stands is changed. */
    private static void generationsOnPaper() {
        BellHeirs x = with(2, 3, 7);
        x.right(0, 0, 9);
        x.right(1, 1, 9);
        x.right(2, 0, 9);
        x.ring(0, 0);
        for (int seed = 0; seed < 20; seed++) {
            is("37", x.generations(seed, 60) >= 0 ? 1 : 0, 1);
        }
        is("37 used", x.has(0, 0, 1), 1);
        is("37 rights", x.at(0, 3) + x.at(1, 3), 27);
        is("37 weary", x.at(0, 2) * 100 + x.at(1, 2), 100);
        is("37 year", x.count(13), 0);
        is("37 living", x.count(2), 3);
        is("37 what can be undone", x.count(5), 1);
        is("25", x.undo(), 0);
        is("25", x.at(0, 2), 0);
    }

    /** Promise 38: behind the latest GENERATIONS. NONE. */
    private static void drawnNone() {
        BellHeirs x = with(2, 3, 0);
        x.right(2, 1, 9);
        x.terms(0, 999);
        is("38 ahead of any", x.drawn(2, 1), -1);
        x.generations(0, 0);
        is("38 refused", x.drawn(2, 1), -1);
        is("37 at 999 it ends", x.generations(0, 60), 0);
        is("38", x.drawn(2, 1), 9);
        is("38", x.drawn(0, 0), 0);
        is("38 person -1", x.drawn(-1, 0), -1);
        is("38 person 3", x.drawn(3, 0), -1);
        is("38 house -1", x.drawn(0, -1), -1);
        is("38 house 2", x.drawn(0, 2), -1);
        is("38 far ones", x.drawn(LOW, HIGH), -1);
        for (int beyond = 3; beyond < 20; beyond++) {
            is("38 person " + beyond, x.drawn(beyond, 1), -1);
            is("38 house " + beyond, x.drawn(1, beyond), -1);
            is("38 person " + -beyond, x.drawn(-beyond, 1), -1);
            is("38 house " + -beyond, x.drawn(1, -beyond), -1);
        }
        is("38 person least", x.drawn(LOW, 0), -1);
        is("38 person greatest", x.drawn(HIGH, 0), -1);
        is("38 house least", x.drawn(0, LOW), -1);
        is("38 house greatest", x.drawn(0, HIGH), -1);
        x.right(2, 1, 5);
        is("38 as it was then", x.drawn(2, 1), 9);
        x.generations(-1, 1);
        is("38 refused ones are not kept", x.drawn(2, 1), 9);
        x.person(0, 0, 0);
        x.house(0, 0);
        is("38 one who was not there then", x.drawn(3, 0), -1);
        is("38 one that was not there then", x.drawn(0, 2), -1);
        x.generations(0, 1);
        is("38 the latest", x.drawn(2, 1), 5);
        is("38 the latest", x.drawn(3, 2), 0);
    }
}
