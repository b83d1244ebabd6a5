/**
 * The sentences of Terms I, III, IV and of promises 1 to 15, 20 to 25, 39 to 42 that name a boundary: each has a
 * test of its own, at the boundary and one beyond it on either side. Above each test stands its sentence.
 */
public final class EdgeStateTest {
    private static final Due due = new Due("EdgeStateTest");
    private static final int LOW = Integer.MIN_VALUE;
    private static final int HIGH = Integer.MAX_VALUE;

    public static void main(String[] args) {
        termsOne();
        refusals();
        termsThree();
        rowsAndTape();
        undone();
        images();
        reading();
        due.end();
    }

    private static void is(String call, long got, long want) {
        due.is(call, got, want);
    }

    /** Two houses and three people, each with a purse of 20. */
    private static BellHeirs small() {
        BellHeirs x = new BellHeirs();
        x.house(0, 5);
        x.house(7, 9);
        x.person(0, 40, 20);
        x.person(1, 30, 20);
        x.person(6, 20, 20);
        return x;
    }

    private static BellHeirs under(String law) {
        BellHeirs x = small();
        is("16 " + law, Due.law(x, law), 0);
        is("20 " + law, x.force(0), -1);
        return x;
    }

    private static void rings(BellHeirs x, int person, int house, int times) {
        for (int i = 0; i < times; i++) {
            x.ring(person, house);
        }
    }

    // ---------------------------------------------------------------- Terms I

    private static void termsOne() {
        placesOfHouses();
        placesOfPeople();
        stepsBetween();
        sixHouses();
        wearyAtFirstAndAtMost();
        bears();
        eightPeople();
        ages();
        purses();
        peopleAtFirst();
        rightsRange();
        rightsAtFirst();
        usedUpToRights();
        leftIsRightsLessUsed();
        yearRange();
        sleepRange();
        moodRange();
        otherTerms();
        newObject();
    }

    /** PLACES 0 .. 24: of HOUSES. */
    private static void placesOfHouses() {
        BellHeirs x = new BellHeirs();
        is("place -1", x.house(-1, 5), -1);
        is("place 25", x.house(25, 5), -1);
        is("place least", x.house(LOW, 5), -1);
        is("place greatest", x.house(HIGH, 5), -1);
        is("place 0", x.house(0, 5), 0);
        is("place 1", x.house(1, 5), 1);
        is("place 23", x.house(23, 5), 2);
        is("place 24", x.house(24, 5), 3);
        is("place 0", x.at(0, 0), 0);
        is("place 1", x.at(1, 0), 1);
        is("place 23", x.at(2, 0), 23);
        is("place 24", x.at(3, 0), 24);
    }

    /** HOME (a PLACE). */
    private static void placesOfPeople() {
        BellHeirs x = new BellHeirs();
        is("home -1", x.person(-1, 5, 5), -1);
        is("home 25", x.person(25, 5, 5), -1);
        is("home least", x.person(LOW, 5, 5), -1);
        is("home greatest", x.person(HIGH, 5, 5), -1);
        is("home 0", x.person(0, 5, 5), 0);
        is("home 1", x.person(1, 5, 5), 1);
        is("home 23", x.person(23, 5, 5), 2);
        is("home 24", x.person(24, 5, 5), 3);
        is("home 0", x.of(0, 0), 0);
        is("home 24", x.of(3, 0), 24);
    }

    /** 5 y and x; x, y 0 .. 4; STEPS between: |x| and |y|: each pair of PLACES, with as many STEPS and one fewer. */
    private static void stepsBetween() {
        for (int y = 0; y < 5; y++) {
            for (int x = 0; x < 5; x++) {
                for (int other = 0; other < 25; other++) {
                    BellHeirs b = new BellHeirs();
                    b.house(other, 0);
                    b.person(5 * y + x, 0, 0);
                    b.right(0, 0, 1);
                    int right = other;
                    int down = 0;
                    while (right >= 5) {
                        right -= 5;
                        down++;
                    }
                    int steps = (x > right ? x - right : right - x) + (y > down ? y - down : down - y);
                    is("steps from " + (5 * y + x) + " to " + other, b.visits(0, steps, -1), 1);
                    is("a step fewer", b.visits(0, steps - 1, -1), steps == 0 ? -1 : 0);
                }
            }
        }
    }

    /** HOUSES 0 .. 5 (6 at most). */
    private static void sixHouses() {
        BellHeirs x = new BellHeirs();
        for (int i = 0; i < 6; i++) {
            is("houses", x.count(0), i);
            is("no such house yet", x.at(i, 0), -1);
            is("house", x.house(i, 10 + i), i);
            is("house", x.at(i, 1), 10 + i);
        }
        is("seventh house", x.house(6, 10), -5);
        is("seventh house", x.house(0, 0), -5);
        is("six houses", x.count(0), 6);
        is("the sixth stays", x.at(5, 1), 15);
        is("no seventh", x.at(6, 0), -1);
    }

    /** WEARY 0 .. 99 (0 at first); 99 at most. */
    private static void wearyAtFirstAndAtMost() {
        BellHeirs x = under("tires mood*2");
        is("weary at first", x.at(0, 2), 0);
        x.right(0, 0, 20);
        x.terms(2, 9);
        rings(x, 0, 0, 5);
        is("weary 90", x.at(0, 2), 90);
        x.terms(2, 4);
        rings(x, 0, 0, 1);
        is("weary 98", x.at(0, 2), 98);
        Due.law(x, "tires 1");
        x.force(1);
        rings(x, 0, 0, 1);
        is("weary 99", x.at(0, 2), 99);
        is("rings at 99", x.ring(0, 0), 0);
        is("weary 99 and 1", x.at(0, 2), 99);
        is("used all the same", x.has(0, 0, 1), 8);
        BellHeirs y = under("tires 20");
        y.right(0, 0, 20);
        rings(y, 0, 0, 4);
        is("weary 80", y.at(0, 2), 80);
        rings(y, 0, 0, 1);
        is("weary 100 is 99", y.at(0, 2), 99);
        is("the other house", y.at(1, 2), 0);
    }

    /** BEARS 0 .. 99 rings a year. */
    private static void bears() {
        BellHeirs x = new BellHeirs();
        is("bears -1", x.house(3, -1), -1);
        is("bears 100", x.house(3, 100), -1);
        is("bears least", x.house(3, LOW), -1);
        is("bears greatest", x.house(3, HIGH), -1);
        is("bears 0", x.house(3, 0), 0);
        is("bears 1", x.house(3, 1), 1);
        is("bears 98", x.house(3, 98), 2);
        is("bears 99", x.house(3, 99), 3);
        is("bears 0", x.at(0, 1), 0);
        is("bears 99", x.at(3, 1), 99);
    }

    /** PEOPLE 0 .. 7 (8 at most). */
    private static void eightPeople() {
        BellHeirs x = new BellHeirs();
        for (int i = 0; i < 8; i++) {
            is("people", x.count(1), i);
            is("no such person yet", x.of(i, 0), -1);
            is("person", x.person(i, 10 + i, 20 + i), i);
            is("person", x.of(i, 1), 10 + i);
        }
        is("ninth person", x.person(8, 18, 28), -5);
        is("ninth person", x.person(0, 0, 0), -5);
        is("eight people", x.count(1), 8);
        is("the eighth stays", x.of(7, 1), 17);
        is("no ninth", x.of(8, 0), -1);
        x.die(7);
        is("one who is dead keeps the room", x.person(0, 0, 0), -5);
    }

    /** AGE 0 .. 99. */
    private static void ages() {
        BellHeirs x = new BellHeirs();
        is("age -1", x.person(3, -1, 5), -1);
        is("age 100", x.person(3, 100, 5), -1);
        is("age least", x.person(3, LOW, 5), -1);
        is("age greatest", x.person(3, HIGH, 5), -1);
        is("age 0", x.person(3, 0, 5), 0);
        is("age 1", x.person(3, 1, 5), 1);
        is("age 98", x.person(3, 98, 5), 2);
        is("age 99", x.person(3, 99, 5), 3);
        is("age 0", x.of(0, 1), 0);
        is("age 99", x.of(3, 1), 99);
        x.pass();
        is("a year leaves age", x.of(3, 1), 99);
    }

    /** PURSE 0 .. 999. */
    private static void purses() {
        BellHeirs x = new BellHeirs();
        is("purse -1", x.person(3, 5, -1), -1);
        is("purse 1000", x.person(3, 5, 1000), -1);
        is("purse least", x.person(3, 5, LOW), -1);
        is("purse greatest", x.person(3, 5, HIGH), -1);
        is("purse 0", x.person(3, 5, 0), 0);
        is("purse 1", x.person(3, 5, 1), 1);
        is("purse 998", x.person(3, 5, 998), 2);
        is("purse 999", x.person(3, 5, 999), 3);
        is("purse 0", x.of(0, 2), 0);
        is("purse 999", x.of(3, 2), 999);
    }

    /** a WANT (a HOUSE, or NONE, as at first), HEIRS as bits (none at first), living (at first) or DEAD. */
    private static void peopleAtFirst() {
        BellHeirs x = small();
        is("want at first", x.of(2, 3), -1);
        is("heirs at first", x.of(2, 4), 0);
        is("lives at first", x.of(2, 5), 1);
        is("want 0", x.want(2, 0), 0);
        is("want 0", x.of(2, 3), 0);
        is("want the last house", x.want(2, 1), 0);
        is("want the last house", x.of(2, 3), 1);
        is("want one more", x.want(2, 2), -1);
        is("want one fewer than NONE", x.want(2, -2), -1);
        is("want least", x.want(2, LOW), -1);
        is("want greatest", x.want(2, HIGH), -1);
        is("want stays", x.of(2, 3), 1);
        is("want NONE", x.want(2, -1), 0);
        is("want NONE", x.of(2, 3), -1);
        is("dead", x.die(2), 0);
        is("dead", x.of(2, 5), 0);
        is("one new lives", x.person(0, 0, 0), 3);
        is("one new lives", x.of(3, 5), 1);
    }

    /** RIGHTS 0 .. 99 of each PERSON to rings of each HOUSE a year. */
    private static void rightsRange() {
        BellHeirs x = small();
        is("rights -1", x.right(0, 0, -1), -1);
        is("rights 100", x.right(0, 0, 100), -1);
        is("rights least", x.right(0, 0, LOW), -1);
        is("rights greatest", x.right(0, 0, HIGH), -1);
        is("rights 0", x.right(0, 0, 0), 0);
        is("rights 1", x.right(0, 0, 1), 0);
        is("rights 98", x.right(0, 0, 98), 1);
        is("rights 99", x.right(0, 0, 99), 98);
        is("rights 100", x.right(0, 0, 100), -1);
        is("rights 99", x.has(0, 0, 0), 99);
        is("the others", x.has(0, 1, 0), 0);
        is("the others", x.has(1, 0, 0), 0);
    }

    /** (0 at first), of a HOUSE that comes behind the people and a PERSON who comes behind the houses, too. */
    private static void rightsAtFirst() {
        BellHeirs x = small();
        for (int p = 0; p < 3; p++) {
            x.right(p, 0, 9);
            x.right(p, 1, 9);
        }
        x.ring(0, 0);
        x.house(3, 3);
        x.person(3, 3, 3);
        for (int p = 0; p < 4; p++) {
            is("rights of the new house", x.has(p, 2, 0), 0);
            is("used of the new house", x.has(p, 2, 1), 0);
        }
        for (int h = 0; h < 3; h++) {
            is("rights of the new person", x.has(3, h, 0), 0);
            is("used of the new person", x.has(3, h, 1), 0);
        }
        is("the others stay", x.has(2, 1, 0), 9);
        is("the others stay", x.has(0, 0, 1), 1);
    }

    /** USED 0 .. RIGHTS of them (0 at first): with RIGHTS 0, 1, 2, 99. */
    private static void usedUpToRights() {
        int[] many = {0, 1, 2, 99};
        for (int rights : many) {
            BellHeirs x = small();
            x.right(1, 1, rights);
            is("used at first", x.has(1, 1, 1), 0);
            for (int i = 0; i < rights; i++) {
                is("ring " + i, x.ring(1, 1), i < 10 ? 1 : 0);
            }
            is("all used", x.has(1, 1, 1), rights);
            is("one more", x.ring(1, 1), -3);
            is("all used", x.has(1, 1, 1), rights);
            is("weary only by those", x.at(1, 2), rights);
        }
    }

    /** LEFT: RIGHTS less USED. */
    private static void leftIsRightsLessUsed() {
        BellHeirs x = small();
        x.right(0, 0, 3);
        is("left 3", x.has(0, 0, 2), 3);
        x.ring(0, 0);
        is("left 2", x.has(0, 0, 2), 2);
        x.right(0, 0, 99);
        is("left 98", x.has(0, 0, 2), 98);
        x.right(0, 0, 1);
        is("left 0", x.has(0, 0, 2), 0);
    }

    /** TERMS: 0 YEAR 0 .. 999 (0 at first). */
    private static void yearRange() {
        BellHeirs x = small();
        is("year -1", x.terms(0, -1), -1);
        is("year 1000", x.terms(0, 1000), -1);
        is("year least", x.terms(0, LOW), -1);
        is("year greatest", x.terms(0, HIGH), -1);
        is("year at first", x.terms(0, 1), 0);
        is("year", x.terms(0, 998), 1);
        is("year", x.terms(0, 999), 998);
        is("year 1000", x.terms(0, 1000), -1);
        is("year 999", x.count(13), 999);
        is("year", x.terms(0, 0), 999);
        is("year", x.count(13), 0);
    }

    /** 1 SLEEP 0 .. 10 (3). */
    private static void sleepRange() {
        BellHeirs x = small();
        is("sleep -1", x.terms(1, -1), -1);
        is("sleep 11", x.terms(1, 11), -1);
        is("sleep least", x.terms(1, LOW), -1);
        is("sleep greatest", x.terms(1, HIGH), -1);
        is("sleep at first", x.terms(1, 9), 3);
        is("sleep", x.terms(1, 10), 9);
        is("sleep", x.terms(1, 0), 10);
        is("sleep", x.terms(1, 1), 0);
        is("sleep", x.count(14), 1);
    }

    /** 2 MOOD 0 .. 9 (0). */
    private static void moodRange() {
        BellHeirs x = small();
        is("mood -1", x.terms(2, -1), -1);
        is("mood 10", x.terms(2, 10), -1);
        is("mood least", x.terms(2, LOW), -1);
        is("mood greatest", x.terms(2, HIGH), -1);
        is("mood at first", x.terms(2, 8), 0);
        is("mood", x.terms(2, 9), 8);
        is("mood", x.terms(2, 0), 9);
        is("mood", x.terms(2, 1), 0);
        is("mood", x.count(15), 1);
    }

    /** Promise 11: -1, for a TERM that there is not, too. */
    private static void otherTerms() {
        BellHeirs x = small();
        is("term -1", x.terms(-1, 0), -1);
        is("term 3", x.terms(3, 0), -1);
        is("term least", x.terms(LOW, 0), -1);
        is("term greatest", x.terms(HIGH, 0), -1);
        is("as at first", x.count(13) * 100 + x.count(14) * 10 + x.count(15), 30);
    }

    /** Promise 1: a suburb without bells. */
    private static void newObject() {
        BellHeirs x = new BellHeirs();
        for (int what = 0; what <= 15; what++) {
            is("count " + what, x.count(what), what == 12 ? -1 : what == 14 ? 3 : 0);
        }
        is("count -1", x.count(-1), -1);
        is("count 16", x.count(16), -1);
        is("count least", x.count(LOW), -1);
        is("count greatest", x.count(HIGH), -1);
        is("rust", x.rust(), 0);
        is("fault", x.fault(), -1);
        is("stopped", x.stopped(), -1);
        is("status", x.status(), 0);
        is("who", x.who(), 0);
        is("drawn", x.drawn(0, 0), -1);
        is("no image", x.back(0), -2);
        is("no image", x.back(1), -2);
        is("nothing to undo", x.undo(), -3);
        BellHeirs y = new BellHeirs();
        is("another object is new", y.count(8) + y.count(9) - y.status(), 0);
    }

    // ---------------------------------------------------------------- REFUSED

    private static void refusals() {
        firstOfHouse();
        firstOfPerson();
        firstOfWant();
        firstOfWill();
        firstOfRight();
        firstOfClue();
        firstOfSell();
        firstOfGenerations();
        firstOfBack();
        refusedLeaveAllAsItWas();
        eachRefusalIsCounted();
        statusOfEach();
        readersLeaveStatus();
    }

    /** Promise 2: -1; -5: the first of these. */
    private static void firstOfHouse() {
        BellHeirs x = new BellHeirs();
        for (int i = 0; i < 6; i++) {
            x.house(0, 0);
        }
        is("2 -1 ahead of -5", x.house(25, 0), -1);
        is("2 -1 ahead of -5", x.house(0, 100), -1);
        is("2 -5", x.house(24, 99), -5);
    }

    /** Promise 4: -1; -5. */
    private static void firstOfPerson() {
        BellHeirs x = new BellHeirs();
        for (int i = 0; i < 8; i++) {
            x.person(0, 0, 0);
        }
        is("4 -1 ahead of -5", x.person(25, 0, 0), -1);
        is("4 -1 ahead of -5", x.person(0, 100, 0), -1);
        is("4 -1 ahead of -5", x.person(0, 0, 1000), -1);
        is("4 -5", x.person(24, 99, 999), -5);
    }

    /** Promise 6: -1 (no HOUSE there is, nor NONE); -2. */
    private static void firstOfWant() {
        BellHeirs x = small();
        is("6 -1 ahead of -2", x.want(3, 2), -1);
        is("6 -1 ahead of -2", x.want(-1, -2), -1);
        is("6 -2", x.want(3, 1), -2);
        is("6 -2", x.want(-1, 1), -2);
        is("6 -2 of NONE", x.want(3, -1), -2);
        is("6 -2", x.want(LOW, 0), -2);
        is("6 -2", x.want(HIGH, 0), -2);
        is("6 the last person", x.want(2, 1), 0);
        BellHeirs y = new BellHeirs();
        y.person(0, 0, 0);
        is("6 there are no houses", y.want(0, 0), -1);
        is("6 there are no houses", y.want(0, -1), 0);
        y.house(0, 0);
        is("6 now there is one", y.want(0, 0), 0);
    }

    /** Promise 7: -1 (one there is not, itself); -2. */
    private static void firstOfWill() {
        BellHeirs x = small();
        is("7 all others", x.will(0, 6), 0);
        is("7 all others", x.will(1, 5), 0);
        is("7 all others", x.will(2, 3), 0);
        is("7 itself", x.will(0, 1), -1);
        is("7 itself", x.will(0, 7), -1);
        is("7 itself", x.will(1, 2), -1);
        is("7 itself", x.will(2, 4), -1);
        is("7 the first there is not", x.will(0, 8), -1);
        is("7 the first there is not", x.will(0, 14), -1);
        is("7 far ones there are not", x.will(0, 1 << 8), -1);
        is("7 far ones there are not", x.will(0, 1 << 30), -1);
        is("7 far ones there are not", x.will(0, LOW), -1);
        is("7 far ones there are not", x.will(0, -2), -1);
        is("7 far ones there are not", x.will(0, HIGH - 1), -1);
        is("7 -1 ahead of -2", x.will(3, 8), -1);
        is("7 -1 ahead of -2", x.will(-1, 16), -1);
        is("7 -2", x.will(3, 7), -2);
        is("7 -2", x.will(3, 0), -2);
        is("7 -2", x.will(-1, 1), -2);
        is("7 -2", x.will(32, 1), -2);
        is("7 -2", x.will(LOW, 1), -2);
        is("7 who they were", x.will(0, 0), 6);
        is("7 who they were", x.will(0, 2), 0);
        is("7 who they were", x.of(0, 4), 2);
        BellHeirs y = new BellHeirs();
        for (int i = 0; i < 8; i++) {
            y.person(0, 0, 0);
        }
        is("7 of eight", y.will(0, 254), 0);
        is("7 of eight", y.will(7, 127), 0);
        is("7 of eight", y.will(0, 256), -1);
        is("7 of eight", y.will(7, 255), -1);
        is("7 of eight", y.of(0, 4), 254);
    }

    /** Promise 8: -1; -2; -3 fewer than USED, or one is DEAD. */
    private static void firstOfRight() {
        BellHeirs x = small();
        is("8 -1 ahead of -2", x.right(3, 0, 100), -1);
        is("8 -1 ahead of -2", x.right(0, 2, -1), -1);
        is("8 -2", x.right(3, 0, 99), -2);
        is("8 -2", x.right(-1, 0, 0), -2);
        is("8 -2", x.right(0, 2, 0), -2);
        is("8 -2", x.right(0, -1, 0), -2);
        is("8 -2", x.right(LOW, HIGH, 0), -2);
        is("8 the last ones", x.right(2, 1, 4), 0);
        rings(x, 2, 1, 3);
        is("8 one fewer than used", x.right(2, 1, 2), -3);
        is("8 none", x.right(2, 1, 0), -3);
        is("8 as many as used", x.right(2, 1, 3), 4);
        is("8 one more", x.right(2, 1, 4), 3);
        x.die(2);
        is("8 dead", x.right(2, 1, 4), -3);
        is("8 dead, as it is", x.right(2, 1, 0), -3);
        is("8 -1 ahead of -3", x.right(2, 1, 100), -1);
        is("8 -2 ahead of -3", x.right(2, 2, 1), -2);
        is("8 the living", x.right(1, 1, 4), 0);
    }

    /** Promise 28: -1; -2; -5; CLUES, 6 at most; STEPS 0 .. 99. */
    private static void firstOfClue() {
        BellHeirs x = small();
        is("28 steps -1", x.clue(0, -1), -1);
        is("28 steps 100", x.clue(0, 100), -1);
        is("28 steps least", x.clue(0, LOW), -1);
        is("28 steps greatest", x.clue(0, HIGH), -1);
        is("28 -1 ahead of -2", x.clue(2, 100), -1);
        is("28 -2", x.clue(2, 99), -2);
        is("28 -2", x.clue(-1, 0), -2);
        is("28 no clue", x.count(3), 0);
        for (int i = 1; i <= 6; i++) {
            is("28", x.clue(i % 2, i % 2 == 0 ? 0 : 99), i);
        }
        is("28 seventh", x.clue(0, 0), -5);
        is("28 -1 ahead of -5", x.clue(0, 100), -1);
        is("28 -2 ahead of -5", x.clue(2, 0), -2);
        is("28 six", x.count(3), 6);
        is("29 how many there were", x.forget(), 6);
        is("29 none", x.forget(), 0);
        is("28 room again", x.clue(0, 0), 1);
    }

    /** Promise 22: -1 (to oneself); -2; -3. */
    private static void firstOfSell() {
        BellHeirs x = small();
        is("22 oneself", x.sell(0, 0, 0), -1);
        is("22 -1 ahead of -2", x.sell(3, 3, 0), -1);
        is("22 -1 ahead of -2", x.sell(0, 0, 2), -1);
        is("22 -1 ahead of -2", x.sell(-1, -1, 0), -1);
        is("22 -2", x.sell(3, 0, 0), -2);
        is("22 -2", x.sell(-1, 0, 0), -2);
        is("22 -2", x.sell(0, 3, 0), -2);
        is("22 -2", x.sell(0, -1, 0), -2);
        is("22 -2 ahead of -3", x.sell(0, 1, 2), -2);
        is("22 -2 ahead of -3", x.sell(0, 1, -1), -2);
        is("22 -3", x.sell(0, 1, 0), -3);
        x.right(0, 0, 1);
        is("22 it can", x.sell(0, 1, 0), 5);
    }

    /** Promise 37: -1; -3 there are no people, no HOUSES. */
    private static void firstOfGenerations() {
        BellHeirs x = new BellHeirs();
        is("37 neither", x.generations(0, 1), -3);
        is("37 -1 ahead of -3", x.generations(0, 0), -1);
        is("37 -1 ahead of -3", x.generations(0, 61), -1);
        is("37 -1 ahead of -3", x.generations(-1, 1), -1);
        is("37 -1 ahead of -3", x.generations(1000001, 1), -1);
        x.person(0, 0, 0);
        is("37 no houses", x.generations(0, 1), -3);
        x.house(0, 0);
        is("37 both", x.generations(0, 1), 0);
        BellHeirs y = new BellHeirs();
        y.house(0, 0);
        is("37 no people", y.generations(0, 1), -3);
        y.person(0, 0, 0);
        y.die(0);
        is("37 all are dead", y.generations(0, 1), 0);
    }

    /** Promises 39, 40: -1; -2 it was not kept. */
    private static void firstOfBack() {
        BellHeirs x = small();
        is("39 -1", x.image(-1), -1);
        is("39 2", x.image(2), -1);
        is("39 least", x.image(LOW), -1);
        is("39 greatest", x.image(HIGH), -1);
        is("40 -1", x.back(-1), -1);
        is("40 2", x.back(2), -1);
        is("40 least", x.back(LOW), -1);
        is("40 greatest", x.back(HIGH), -1);
        is("40 0", x.back(0), -2);
        is("40 1", x.back(1), -2);
        is("39 1", x.image(1), 0);
        is("40 0", x.back(0), -2);
        is("40 1", x.back(1), 0);
        is("39 0", x.image(0), 0);
        is("40 0", x.back(0), 0);
    }

    private static String all(BellHeirs x) {
        StringBuilder s = new StringBuilder();
        for (int what = 0; what <= 15; what++) {
            s.append(what >= 7 && what <= 11 ? 0 : x.count(what)).append(' ');
        }
        for (int h = 0; h < 2; h++) {
            for (int what = 0; what <= 4; what++) {
                s.append(x.at(h, what)).append(' ');
            }
        }
        for (int p = 0; p < 3; p++) {
            for (int what = 0; what <= 5; what++) {
                s.append(x.of(p, what)).append(' ');
            }
            for (int h = 0; h < 2; h++) {
                s.append(x.has(p, h, 0)).append(' ').append(x.has(p, h, 1)).append(' ');
            }
        }
        return s.append(x.who()).append(' ').append(x.drawn(0, 0)).append(' ').append(x.rust()).toString();
    }

    /** REFUSED: nothing is changed by it, what can be undone neither. */
    private static void refusedLeaveAllAsItWas() {
        BellHeirs x = under("tires 2;opens if left>1");
        x.right(0, 0, 3);
        x.right(1, 1, 2);
        x.clue(0, 4);
        x.want(0, 1);
        x.will(0, 6);
        x.generations(3, 4);
        x.image(0);
        x.ring(0, 0);
        x.sell(0, 1, 0);
        x.die(2);
        String before = all(x);
        int[] answers = {x.house(25, 0), x.house(0, 100), x.person(0, 0, 1000), x.want(0, 2), x.want(3, 0),
            x.will(0, 8), x.will(0, 1), x.will(3, 0), x.right(0, 0, 100), x.right(3, 0, 1), x.right(0, 0, 0),
            x.right(2, 0, 1), x.terms(0, 1000), x.terms(3, 0), x.row(), x.law(), x.orders(), x.force(1), x.force(-2),
            x.ring(3, 0), x.ring(2, 0), x.sell(0, 0, 0), x.sell(0, 3, 0), x.sell(0, 2, 0), x.die(3), x.die(2),
            x.clue(0, 100), x.clue(2, 0), x.generations(0, 0), x.generations(-1, 1), x.image(2), x.back(2), x.back(1),
            Due.orders(x, "ring 0 at 0;die 2"), Due.orders(x, "ring 0 at 0;die")};
        for (int i = 0; i < answers.length; i++) {
            is("refused " + i, answers[i] < 0 ? 1 : 0, 1);
        }
        String after = all(x);
        is("nothing is changed: " + before + " / " + after, before.equals(after) ? 1 : 0, 1);
        is("undone as if nothing were between", x.undo(), 2);
        is("undone as if nothing were between", x.undo(), 1);
        is("undone as if nothing were between", x.undo(), 0);
        is("undone as if nothing were between", x.undo(), -3);
    }

    /** Promise 41: 7 .. 11 how many calls were REFUSED by -1, -2, -3, -5, -6 (IMAGES do not keep that). */
    private static void eachRefusalIsCounted() {
        BellHeirs x = small();
        x.image(0);
        for (int i = 1; i <= 3; i++) {
            x.house(25, 0);
            is("41 by -1", x.count(7), i);
        }
        for (int i = 1; i <= 4; i++) {
            x.force(5);
            is("41 by -2", x.count(8), i);
        }
        for (int i = 1; i <= 5; i++) {
            x.undo();
            is("41 by -3", x.count(9), i);
        }
        for (int i = 0; i < 5; i++) {
            x.house(0, 0);
        }
        is("41 by -5", x.count(10), 1);
        x.row();
        x.law();
        x.orders();
        is("41 by -6", x.count(11), 3);
        x.feed(0, 0, 0, 0, 0);
        x.end(-1);
        x.at(9, 9);
        x.visits(0, 100, 0);
        x.likely(21, 0);
        x.drawn(9, 9);
        x.count(99);
        is("41 NONE is no refusal", x.count(7) * 1000 + x.count(8) * 100 + x.count(9) * 10 + x.count(10), 3451);
        x.back(0);
        is("41 not gone back to", x.count(7) * 1000 + x.count(8) * 100 + x.count(9) * 10 + x.count(10), 3451);
        is("41 not gone back to", x.count(11), 3);
        is("41 force NONE told is no refusal", x.force(-1), -1);
        is("41 force NONE told is no refusal", x.count(7), 3);
    }

    /** Promise 42: each of those calls tells it, and tells 0 if it was not REFUSED. */
    private static void statusOfEach() {
        BellHeirs x = small();
        int[] refused = {1, x.house(25, 0), x.status(), x.person(25, 0, 0), x.status(), x.want(0, 2), x.status(),
            x.will(3, 0), x.status(), x.right(0, 0, 100), x.status(), x.terms(3, 0), x.status(), x.row(), x.status(),
            x.law(), x.status(), x.orders(), x.status(), x.force(0), x.status(), x.ring(0, 0), x.status(),
            x.sell(0, 0, 0), x.status(), x.die(3), x.status(), x.undo(), x.status(), x.clue(2, 0), x.status(),
            x.generations(0, 0), x.status(), x.image(2), x.status(), x.back(1), x.status()};
        for (int i = 1; i < refused.length; i += 2) {
            is("42 refused " + i, refused[i] < 0 ? 1 : 0, 1);
            is("42 refused " + i, refused[i + 1], refused[i]);
        }
        x.terms(0, 999);
        is("42 pass", x.pass(), -3);
        is("42 pass", x.status(), -3);
        x.terms(0, 0);
        is("42 not refused", x.status(), 0);
        x.right(0, 0, 9);
        Due.put(x, "pass");
        int[] fine = {x.undo(), x.house(0, 0), x.status(), x.undo(), x.person(0, 0, 0), x.status(), x.undo(),
            x.want(0, 1), x.status(), x.undo(), x.will(0, 0), x.status(), x.undo(), x.right(0, 0, 8), x.status(),
            x.undo(), x.terms(1, 1), x.status(), x.undo(), x.orders(), x.status(), x.back(1), x.force(-1), x.status(),
            x.back(1), x.ring(0, 0), x.status(), x.back(1), x.sell(0, 1, 0), x.status(), x.back(1), x.die(2),
            x.status(), x.back(1), x.pass(), x.status(), x.back(1), x.undo(), x.status(), x.back(1), x.clue(0, 0),
            x.status(), x.back(1), x.generations(0, 1), x.status(), x.back(1), x.image(0), x.status(), x.back(1),
            x.back(0), x.status()};
        for (int i = 2; i < fine.length; i += 3) {
            is("42 the one ahead was refused " + i, fine[i - 2] < 0 ? 1 : 0, 1);
            is("42 not refused " + i, fine[i], 0);
        }
        x.undo();
        is("42 law", Due.law(x, "opens"), 0);
        is("42 law", x.status(), 0);
        x.undo();
        Due.put(x, "1");
        is("42 row", x.row(), 0);
        is("42 row", x.status(), 0);
    }

    /** Promise 42: other calls do not change it. */
    private static void readersLeaveStatus() {
        BellHeirs x = small();
        x.die(3);
        x.at(0, 0);
        x.of(0, 0);
        x.has(0, 0, 3);
        x.asks(0, 1, 0, 2);
        x.feed(0, 0, 0, 0, 0);
        x.end(0);
        x.rust();
        x.fault();
        x.stopped();
        x.visits(0, 1, -1);
        x.exchange(0);
        x.forget();
        x.who();
        x.look(0);
        x.amend(0, 0);
        x.given(0, 1, 0);
        x.keep(0, 1, 1, -1);
        x.chain(0, 1, 0, -1);
        x.likely(1, 1);
        x.drawn(0, 0);
        x.count(0);
        is("42 stays", x.status(), -2);
        is("42 stays", x.status(), -2);
        x.die(2);
        x.at(9, 0);
        x.end(9);
        x.chain(0, 0, 0, 0);
        is("42 stays 0", x.status(), 0);
    }

    // ---------------------------------------------------------------- Terms III: deeds

    private static void termsThree() {
        ringNeedsOneLeft();
        ringAskedAsAhead();
        ringOfWhom();
        sellNeedsOneLeft();
        sellFullRights();
        sellPurse();
        sellPurseAtMost();
        sellBarredOrDead();
        dieDivides();
        dieAtMost();
        dieLost();
        dieOfWhom();
        lastYear();
        aYear();
    }

    /** To RING (one who lives, LEFT is 1 or more): USED is one more. */
    private static void ringNeedsOneLeft() {
        BellHeirs x = small();
        is("21 left 0", x.ring(0, 0), -3);
        x.right(0, 0, 2);
        is("21 left 2", x.ring(0, 0), 1);
        is("21 left 1", x.ring(0, 0), 1);
        is("21 left 0", x.ring(0, 0), -3);
        is("21 used", x.has(0, 0, 1), 2);
        x.pass();
        is("21 next year", x.ring(0, 0), 1);
        x.die(0);
        is("21 dead", x.ring(0, 0), -3);
    }

    /** if the HOUSE OPENS (asked with LEFT as it was ahead), that is told; by what the ring TIRES it (asked likewise). */
    private static void ringAskedAsAhead() {
        BellHeirs x = under("opens if left=2;tires left*5+weary");
        x.right(0, 0, 3);
        is("21 left 3", x.ring(0, 0), 0);
        is("21 tires by 15", x.at(0, 2), 15);
        is("21 left 2", x.ring(0, 0), 1);
        is("21 tires by 20 at most", x.at(0, 2), 35);
        is("21 left 1", x.ring(0, 0), 0);
        is("21 tires, open or not", x.at(0, 2), 55);
        BellHeirs y = under("tires 10");
        y.right(0, 0, 2);
        is("21 weary 0 as ahead", y.ring(0, 0), 1);
        is("21 weary 10", y.ring(0, 0), 0);
    }

    /** Promise 21: -2; -3. */
    private static void ringOfWhom() {
        BellHeirs x = small();
        x.right(2, 1, 9);
        is("21 person -1", x.ring(-1, 1), -2);
        is("21 person 3", x.ring(3, 1), -2);
        is("21 house -1", x.ring(2, -1), -2);
        is("21 house 2", x.ring(2, 2), -2);
        is("21 person least", x.ring(LOW, 1), -2);
        is("21 house greatest", x.ring(2, HIGH), -2);
        is("21 the last ones", x.ring(2, 1), 1);
    }

    /** To SELL a ring (LEFT is 1 or more): RIGHTS of the one are one less, of the other one more. */
    private static void sellNeedsOneLeft() {
        BellHeirs x = small();
        is("22 left 0 of 0", x.sell(0, 1, 0), -3);
        x.right(0, 0, 2);
        x.ring(0, 0);
        is("10 it can be", x.asks(0, 1, 0, 2), 1);
        is("22 left 1 of 2", x.sell(0, 1, 0), 5);
        is("22 rights", x.has(0, 0, 0), 1);
        is("22 used stays", x.has(0, 0, 1), 1);
        is("22 rights", x.has(1, 0, 0), 1);
        is("22 used", x.has(1, 0, 1), 0);
        is("10 it can't be", x.asks(0, 1, 0, 2), 0);
        is("22 left 0 of 1", x.sell(0, 1, 0), -3);
        is("22 the other house", x.has(1, 1, 0), 0);
    }

    /** the other one's RIGHTS are below 99. */
    private static void sellFullRights() {
        BellHeirs x = small();
        x.right(0, 0, 9);
        x.right(1, 0, 99);
        is("10 rights 99", x.asks(0, 1, 0, 2), 0);
        is("22 rights 99", x.sell(0, 1, 0), -3);
        x.right(1, 0, 98);
        is("10 rights 98", x.asks(0, 1, 0, 2), 1);
        is("22 rights 98", x.sell(0, 1, 0), 5);
        is("22 rights 99", x.has(1, 0, 0), 99);
        x.right(1, 1, 99);
        x.right(1, 0, 0);
        is("22 of another house", x.sell(0, 1, 0), 5);
        x.right(0, 0, 99);
        is("22 who sells may have 99", x.sell(0, 1, 0), 5);
    }

    /** PURSE is what it COSTS or more. */
    private static void sellPurse() {
        int[] costs = {0, 19, 20, 21};
        for (int cost : costs) {
            BellHeirs x = under("costs " + cost);
            x.right(0, 0, 1);
            is("10 costs " + cost, x.asks(0, 1, 0, 0), cost);
            is("10 costs " + cost, x.asks(0, 1, 0, 2), cost <= 20 ? 1 : 0);
            is("22 costs " + cost, x.sell(0, 1, 0), cost <= 20 ? cost : -3);
            is("22 from the purse", x.of(1, 2), cost <= 20 ? 20 - cost : 20);
            is("22 to the purse", x.of(0, 2), cost <= 20 ? 20 + cost : 20);
            is("22 no other purse", x.of(2, 2), 20);
        }
    }

    /** what it COSTS goes from PURSE to PURSE (999 at most). */
    private static void sellPurseAtMost() {
        int[] purses = {993, 994, 995, 999};
        int[] due = {998, 999, 999, 999};
        for (int i = 0; i < purses.length; i++) {
            BellHeirs x = new BellHeirs();
            x.house(0, 0);
            x.person(0, 0, purses[i]);
            x.person(0, 0, 5);
            x.right(0, 0, 1);
            is("22", x.sell(0, 1, 0), 5);
            is("22 purse of " + purses[i], x.of(0, 2), due[i]);
            is("22 all that it costs is gone", x.of(1, 2), 0);
        }
    }

    /** both live; not BARRED. */
    private static void sellBarredOrDead() {
        BellHeirs x = under("bars if to=2;bars if left=1 and house=1");
        x.right(0, 0, 9);
        x.right(0, 1, 2);
        is("10 barred", x.asks(0, 2, 0, 1), 1);
        is("10 barred, it can't be", x.asks(0, 2, 0, 2), 0);
        is("22 barred", x.sell(0, 2, 0), -3);
        is("10 not barred", x.asks(0, 1, 0, 1), 0);
        is("22 not barred", x.sell(0, 1, 0), 5);
        is("22 left 2", x.sell(0, 1, 1), 5);
        is("22 left 1: barred", x.sell(0, 1, 1), -3);
        x.die(1);
        is("10 the buyer is dead", x.asks(0, 1, 0, 2), 0);
        is("22 the buyer is dead", x.sell(0, 1, 0), -3);
        BellHeirs y = small();
        y.right(0, 0, 9);
        y.die(0);
        is("10 the seller is dead", y.asks(0, 1, 0, 2), 0);
        is("22 the seller is dead", y.sell(0, 1, 0), -3);
    }

    /** To DIE: RIGHTS (whatever is USED) divided among HEIRS who live: as many whole ones, the rest to the lowest. */
    private static void dieDivides() {
        int[] rights = {0, 1, 2, 3, 4, 5, 99};
        for (int many : rights) {
            BellHeirs x = new BellHeirs();
            x.house(0, 0);
            x.house(0, 0);
            for (int i = 0; i < 5; i++) {
                x.person(0, 0, 7);
            }
            // 0, 2, 4 are heirs of 3, and 1, who is dead.
            x.right(3, 1, many);
            rings(x, 3, 1, Math.min(many, 2));
            x.will(3, 1 + 2 + 4 + 16);
            x.die(1);
            is("23", x.die(3), 3);
            is("23 first of " + many, x.has(0, 1, 0), (many + 2) / 3);
            is("23 dead heir", x.has(1, 1, 0), 0);
            is("23 second of " + many, x.has(2, 1, 0), (many + 1) / 3);
            is("23 third of " + many, x.has(4, 1, 0), many / 3);
            is("23 used is not inherited", x.has(0, 1, 1), 0);
            is("23 its own", x.has(3, 1, 0), 0);
            is("23 its own used", x.has(3, 1, 1), 0);
            is("23 all together", x.at(1, 3), many);
            is("23 the other house", x.at(0, 3), 0);
            is("23 its purse stays", x.of(3, 2), 7);
            is("23 its heirs stay", x.of(3, 4), 23);
        }
    }

    /** (99 RIGHTS at most). */
    private static void dieAtMost() {
        for (int before = 93; before <= 99; before++) {
            BellHeirs x = small();
            x.right(0, 0, 5);
            x.right(1, 0, before);
            x.will(0, 2);
            is("23", x.die(0), 1);
            is("23 to " + before, x.has(1, 0, 0), Math.min(99, before + 5));
            is("23 nobody else gets it", x.at(0, 3), Math.min(99, before + 5));
        }
    }

    /** they are lost without such. */
    private static void dieLost() {
        BellHeirs x = small();
        x.right(0, 0, 5);
        x.right(1, 0, 4);
        x.will(1, 1);
        is("23 no heirs", x.die(0), 0);
        is("23 lost", x.at(0, 3), 4);
        is("23 all heirs are dead", x.die(1), 0);
        is("23 lost", x.at(0, 3), 0);
        BellHeirs y = new BellHeirs();
        y.house(0, 0);
        for (int i = 0; i < 8; i++) {
            y.person(0, 0, 0);
            y.right(i, 0, i == 7 ? 99 : 0);
        }
        y.will(7, 127);
        is("23 seven heirs", y.die(7), 7);
        is("23 seven heirs", y.has(0, 0, 0), 15);
        is("23 seven heirs", y.has(1, 0, 0), 14);
        is("23 seven heirs", y.has(6, 0, 0), 14);
    }

    /** Promise 23: -2; -3. */
    private static void dieOfWhom() {
        BellHeirs x = small();
        is("23 person -1", x.die(-1), -2);
        is("23 person 3", x.die(3), -2);
        is("23 least", x.die(LOW), -2);
        is("23 greatest", x.die(HIGH), -2);
        is("23 the last one", x.die(2), 0);
        is("23 again", x.die(2), -3);
        is("41 living", x.count(2), 2);
        is("41 people", x.count(1), 3);
        is("23 the first one", x.die(0), 0);
        is("23 the middle one", x.die(1), 0);
        is("41 nobody lives", x.count(2), 0);
    }

    /** it is the next YEAR (at 999 it can't be). */
    private static void lastYear() {
        BellHeirs x = small();
        x.right(0, 0, 2);
        x.terms(0, 997);
        is("24", x.pass(), 998);
        is("24", x.pass(), 999);
        x.ring(0, 0);
        is("24 at 999", x.pass(), -3);
        is("24 nothing is changed", x.has(0, 0, 1), 1);
        is("24 nothing is changed", x.at(0, 2), 1);
        is("24 nothing is changed", x.count(13), 999);
        is("41 nothing is changed", x.count(5), 3);
    }

    /** all USED and all WEARY are 0. */
    private static void aYear() {
        BellHeirs x = small();
        for (int p = 0; p < 3; p++) {
            for (int h = 0; h < 2; h++) {
                x.right(p, h, 3);
            }
        }
        for (int p = 0; p < 3; p++) {
            for (int h = 0; h < 2; h++) {
                rings(x, p, h, p + h + 1 > 3 ? 3 : p + h + 1);
            }
        }
        is("weary", x.at(0, 2) + x.at(1, 2), 14);
        is("24", x.pass(), 1);
        for (int p = 0; p < 3; p++) {
            for (int h = 0; h < 2; h++) {
                is("24 used", x.has(p, h, 1), 0);
                is("24 rights", x.has(p, h, 0), 3);
            }
        }
        is("24 weary", x.at(0, 2), 0);
        is("24 weary", x.at(1, 2), 0);
    }

    // ---------------------------------------------------------------- TAPE and ROW

    private static void rowsAndTape() {
        tapeOf400();
        bytesOfANumber();
        endOfTape();
        emptyRow();
        rowNumbers();
        rowEndsWithin();
        rowRoom();
        rustOfLatest();
    }

    /** Promise 12: how many it has. NONE, if there would be more than 400. */
    private static void tapeOf400() {
        BellHeirs x = new BellHeirs();
        for (int i = 1; i <= 20; i++) {
            is("12", x.feed(i, i, i, i, i), 20 * i);
        }
        is("12 more than 400", x.feed(1, 1, 1, 1, 1), -1);
        is("12 stays", x.count(6), 400);
        for (int n = 399; n >= 381; n--) {
            x.end(n);
            is("12 more than 400", x.feed(1, 1, 1, 1, 1), -1);
            is("12 stays", x.count(6), n);
        }
        x.end(380);
        is("12 just 400", x.feed(1, 1, 1, 1, 1), 400);
        x.end(379);
        is("12 just below", x.feed(1, 1, 1, 1, 1), 399);
        is("12 is no refusal", x.count(7), 0);
    }

    /** four of each number, the highest first. */
    private static void bytesOfANumber() {
        BellHeirs x = new BellHeirs();
        x.feed(0x01020304, 0x05060708, 0x090a0b02, 0x0d0e0f01, 0x11121305);
        is("12 five people", x.row(), 5);
        is("12 no rust", x.rust(), 0);
        int[] purses = {34, 78, 112, 151, 195};
        for (int i = 0; i < 5; i++) {
            is("12 first byte", x.of(i, 0), 4 * i + 1);
            is("12 second byte", x.of(i, 1), 4 * i + 2);
            is("12 third and fourth byte", x.of(i, 2), purses[i]);
        }
        BellHeirs y = new BellHeirs();
        y.feed(0xff000000, 0x00ff0000, 0x0000ff00, 0x000000ff, 0xffffffff);
        is("12 bytes to 255", y.row(), 0);
        is("12 bytes to 255", y.rust(), 5);
    }

    /** Promise 13: n. NONE, if it has not so many, or n is below 0. */
    private static void endOfTape() {
        BellHeirs x = new BellHeirs();
        is("13 empty", x.end(0), 0);
        is("13 empty", x.end(1), -1);
        is("13 below 0", x.end(-1), -1);
        is("13 least", x.end(LOW), -1);
        is("13 greatest", x.end(HIGH), -1);
        x.feed(0, 0, 0, 0, 0);
        is("13 one more than there are", x.end(21), -1);
        is("13 stays", x.count(6), 20);
        is("13 all", x.end(20), 20);
        is("13 one fewer", x.end(19), 19);
        is("13 what is gone is gone", x.end(20), -1);
        is("13 below 0", x.end(-1), -1);
        is("13 stays", x.count(6), 19);
        is("13 none", x.end(0), 0);
        is("13 none", x.count(6), 0);
        is("13 what comes is at the beginning", x.feed(0x07000000, 0, 0, 0, 0), 20);
        x.end(4);
        x.row();
        is("13 what comes is at the beginning", x.of(0, 0), 7);
    }

    /** Promise 14: -6 the TAPE is empty. */
    private static void emptyRow() {
        BellHeirs x = new BellHeirs();
        is("14 empty", x.row(), -6);
        Due.put(x, new byte[] {0});
        is("14 one byte", x.row(), 0);
        is("15 one byte", x.rust(), 1);
        is("14 empty then", x.count(6), 0);
        is("14 empty then", x.row(), -6);
        Due.put(x, new byte[] {0, 0, 0, 0});
        x.end(0);
        is("14 ended at 0", x.row(), -6);
    }

    private static void cameAndRust(int came, int rust, int... numbers) {
        BellHeirs x = new BellHeirs();
        byte[] bytes = new byte[numbers.length];
        for (int i = 0; i < bytes.length; i++) {
            bytes[i] = (byte) numbers[i];
        }
        Due.put(x, bytes);
        is("14 came", x.row(), came);
        is("15 rust", x.rust(), rust);
        is("41 people", x.count(1), came);
    }

    /** HOME, AGE, PURSE as ten times the third and the fourth (0 .. 9): a PERSON; one that can't be is RUST. */
    private static void rowNumbers() {
        cameAndRust(1, 0, 0, 0, 0, 0);
        cameAndRust(1, 0, 24, 99, 99, 9);
        cameAndRust(0, 1, 25, 0, 0, 0);
        cameAndRust(0, 1, 255, 0, 0, 0);
        cameAndRust(0, 1, 128, 0, 0, 0);
        cameAndRust(0, 1, 0, 100, 0, 0);
        cameAndRust(0, 1, 0, 255, 0, 0);
        cameAndRust(0, 1, 0, 0, 100, 0);
        cameAndRust(0, 1, 0, 0, 255, 0);
        cameAndRust(0, 1, 0, 0, 0, 10);
        cameAndRust(0, 1, 0, 0, 99, 10);
        cameAndRust(0, 1, 0, 0, 0, 255);
        cameAndRust(1, 1, 25, 0, 0, 0, 24, 0, 0, 0);
        cameAndRust(2, 2, 0, 0, 0, 0, 0, 100, 0, 0, 0, 0, 0, 10, 0, 98, 98, 8);
        BellHeirs x = new BellHeirs();
        Due.put(x, new byte[] {25, 0, 0, 0, 23, 98, 99, 9, 1, 2, 0, 9, 1, 2, 1, 0});
        is("14", x.row(), 3);
        is("14 rust takes no number", x.of(0, 0), 23);
        is("14 age", x.of(0, 1), 98);
        is("14 purse 999", x.of(0, 2), 999);
        is("14 purse 9", x.of(1, 2), 9);
        is("14 purse 10", x.of(2, 2), 10);
        is("14 want at first", x.of(0, 3), -1);
        is("14 heirs at first", x.of(0, 4), 0);
        is("14 lives", x.of(0, 5), 1);
    }

    /** one within which the TAPE ends. */
    private static void rowEndsWithin() {
        cameAndRust(0, 1, 0);
        cameAndRust(0, 1, 0, 0);
        cameAndRust(0, 1, 0, 0, 0);
        cameAndRust(1, 0, 0, 0, 0, 0);
        cameAndRust(1, 1, 0, 0, 0, 0, 0);
        cameAndRust(1, 1, 0, 0, 0, 0, 0, 0, 0);
        cameAndRust(2, 0, 0, 0, 0, 0, 0, 0, 0, 0);
        // What was on the TAPE behind its end is not read.
        BellHeirs x = new BellHeirs();
        x.feed(0, 0, 0, 0, 0);
        x.end(7);
        is("14 ends within", x.row(), 1);
        is("15 ends within", x.rust(), 1);
    }

    /** one for which there is no room is RUST. */
    private static void rowRoom() {
        BellHeirs x = new BellHeirs();
        Due.put(x, new byte[32]);
        is("14 eight", x.row(), 8);
        is("15 eight", x.rust(), 0);
        BellHeirs y = new BellHeirs();
        Due.put(y, new byte[36]);
        is("14 nine", y.row(), 8);
        is("15 nine", y.rust(), 1);
        BellHeirs z = new BellHeirs();
        for (int i = 0; i < 7; i++) {
            z.person(1, 1, 1);
        }
        Due.put(z, new byte[] {25, 0, 0, 0, 3, 4, 5, 6, 7, 8, 9, 9, 1});
        is("14 room for one", z.row(), 1);
        is("15 room for one", z.rust(), 3);
        is("14 that one", z.of(7, 0), 3);
        is("14 that one", z.of(7, 2), 56);
        Due.put(z, new byte[400]);
        is("14 no room", z.row(), 0);
        is("15 no room", z.rust(), 100);
        is("42 is no refusal", z.status(), 0);
        is("41 is no refusal", z.count(10), 0);
    }

    /** Promise 15: of the latest row() that was not REFUSED (0 ahead of any). */
    private static void rustOfLatest() {
        BellHeirs x = new BellHeirs();
        is("15 ahead of any", x.rust(), 0);
        x.row();
        is("15 refused only", x.rust(), 0);
        Due.put(x, new byte[] {25, 0, 0, 0, 1});
        x.row();
        is("15", x.rust(), 2);
        x.row();
        is("15 of the one not refused", x.rust(), 2);
        Due.put(x, new byte[4]);
        x.row();
        is("15 none", x.rust(), 0);
    }

    // ---------------------------------------------------------------- undo

    private static void undone() {
        sixteenAreKept();
        kindsOfDeeds();
        cutBy();
        notCutBy();
        undoneByOrders();
        undoneAndDoneAgain();
    }

    /** Promise 25: 16 are kept: behind 15, 16, 17, 33 of them. */
    private static void sixteenAreKept() {
        int[] many = {1, 15, 16, 17, 32, 33, 40};
        for (int rings : many) {
            BellHeirs x = small();
            x.right(0, 0, 99);
            rings(x, 0, 0, rings);
            int kept = Math.min(16, rings);
            is("41 of " + rings, x.count(5), kept);
            for (int i = 1; i <= kept; i++) {
                is("25 of " + rings, x.undo(), 0);
                is("25 used", x.has(0, 0, 1), rings - i);
                is("25 weary", x.at(0, 2), rings - i);
                is("41", x.count(5), kept - i);
            }
            is("25 one more", x.undo(), -3);
            is("25 stays", x.has(0, 0, 1), rings - kept);
        }
    }

    /** is undone: 0 .. 3. */
    private static void kindsOfDeeds() {
        BellHeirs x = small();
        x.right(0, 0, 9);
        x.right(1, 0, 98);
        x.will(0, 6);
        String before = all(x);
        x.ring(0, 0);
        String rung = all(x);
        x.sell(0, 2, 0);
        String sold = all(x);
        x.die(0);
        String dead = all(x);
        x.pass();
        is("25 a year", x.undo(), 3);
        is("25 as it was", dead.equals(all(x)) ? 1 : 0, 1);
        is("25 a death", x.undo(), 2);
        is("25 as it was", sold.equals(all(x)) ? 1 : 0, 1);
        is("25 a sale", x.undo(), 1);
        is("25 as it was", rung.equals(all(x)) ? 1 : 0, 1);
        is("25 a ring", x.undo(), 0);
        is("25 as it was", before.equals(all(x)) ? 1 : 0, 1);
    }

    private static BellHeirs rung() {
        BellHeirs x = small();
        x.right(0, 0, 9);
        rings(x, 0, 0, 3);
        is("41 three", x.count(5), 3);
        return x;
    }

    private static void nothingToUndo(String call, BellHeirs x) {
        is("41 " + call, x.count(5), 0);
        is("25 " + call, x.undo(), -3);
        is("25 " + call, x.has(0, 0, 1), 3);
        x.ring(0, 0);
        is("25 what is behind " + call, x.undo(), 0);
        is("25 what is behind " + call, x.undo(), -3);
    }

    /** nothing that was ahead of a house(), person(), right(), row(), terms() that was not REFUSED can be undone. */
    private static void cutBy() {
        BellHeirs x = rung();
        x.house(0, 0);
        nothingToUndo("house", x);
        x = rung();
        x.person(0, 0, 0);
        nothingToUndo("person", x);
        x = rung();
        x.right(0, 0, 9);
        nothingToUndo("right", x);
        x = rung();
        Due.put(x, new byte[] {25, 0, 0, 0});
        is("14 rust alone", x.row(), 0);
        nothingToUndo("row", x);
        for (int what = 0; what < 3; what++) {
            x = rung();
            x.terms(what, x.count(13 + what));
            nothingToUndo("terms", x);
        }
        x = rung();
        x.image(0);
        x.back(0);
        nothingToUndo("back", x);
    }

    /** Other calls, and those that are REFUSED, leave what can be undone. */
    private static void notCutBy() {
        BellHeirs x = rung();
        x.want(0, 0);
        x.will(0, 2);
        x.clue(0, 0);
        x.forget();
        Due.law(x, "tires 7");
        x.force(0);
        x.generations(0, 60);
        x.image(0);
        x.house(25, 0);
        x.person(25, 0, 0);
        x.right(0, 0, 2);
        x.row();
        x.terms(0, 1000);
        x.back(1);
        Due.orders(x, "die 0 if 1=2");
        Due.orders(x, "ring");
        is("41", x.count(5), 3);
        is("25", x.undo(), 0);
        is("25", x.at(0, 2), 2);
        is("25", x.undo(), 0);
        is("25", x.undo(), 0);
        is("25", x.undo(), -3);
        is("25 stays", x.of(0, 3), 0);
        is("25 stays", x.of(0, 4), 2);
        is("25 stays", x.count(12), 0);
    }

    /** (by ORDERS, too; 16 are kept). */
    private static void undoneByOrders() {
        BellHeirs x = rung();
        is("17", Due.orders(x, "ring 0 at 0;sell 0 to 1 of 0;die 2;pass"), 4);
        is("41", x.count(5), 7);
        is("25", x.undo(), 3);
        is("25", x.undo(), 2);
        is("25", x.undo(), 1);
        is("25", x.undo(), 0);
        is("25", x.has(0, 0, 1), 3);
        is("17 sixteen", Due.orders(x, "pass times 16"), 16);
        is("41 sixteen", x.count(5), 16);
        for (int i = 0; i < 16; i++) {
            is("25 sixteen", x.undo(), 3);
        }
        is("25 those ahead are not kept", x.undo(), -3);
        BellHeirs y = rung();
        is("17 fifteen", Due.orders(y, "pass times 15"), 15);
        for (int i = 0; i < 15; i++) {
            is("25 fifteen", y.undo(), 3);
        }
        is("25 one ahead is kept", y.undo(), 0);
        is("25 no more", y.undo(), -3);
        is("17 forty", Due.orders(y, "pass times 20;pass times 20"), 40);
        is("41 forty", y.count(5), 16);
        is("25 forty", y.undo(), 3);
        is("25 forty", y.count(13), 39);
    }

    /** What is undone can be done again, and undone again, round the sixteen. */
    private static void undoneAndDoneAgain() {
        BellHeirs x = small();
        x.right(0, 0, 99);
        for (int i = 0; i < 20; i++) {
            rings(x, 0, 0, 2);
            is("25", x.undo(), 0);
            is("25", x.has(0, 0, 1), i + 1);
        }
        // Of the sixteen that were kept at last one is undone.
        is("41", x.count(5), 15);
        for (int i = 0; i < 15; i++) {
            is("25", x.undo(), 0);
        }
        is("25", x.has(0, 0, 1), 5);
        is("25", x.undo(), -3);
    }

    // ---------------------------------------------------------------- IMAGES

    private static void images() {
        imagesKeep();
        imagesDoNotKeep();
        imagesStay();
        imagesOfNothing();
        imagesOfUnlikeSuburbs();
    }

    /** BACK to one all that it keeps is as it was then. */
    private static void imagesKeep() {
        BellHeirs x = under("tires 2");
        x.right(0, 0, 9);
        x.ring(0, 0);
        x.want(1, 1);
        x.will(1, 4);
        x.clue(0, 3);
        x.terms(0, 7);
        x.terms(1, 8);
        x.terms(2, 6);
        x.die(2);
        x.image(1);
        String before = all(x);
        x.undo();
        x.house(3, 3);
        x.person(3, 3, 3);
        x.right(3, 2, 3);
        x.right(1, 1, 3);
        x.sell(1, 0, 1);
        x.ring(0, 0);
        x.want(1, 0);
        x.will(1, 1);
        x.clue(1, 1);
        x.terms(0, 1);
        x.terms(1, 1);
        x.terms(2, 1);
        Due.law(x, "tires 3");
        x.force(1);
        x.pass();
        is("40", x.back(1), 0);
        String after = all(x);
        is("40 as it was then " + before + " / " + after,
            before.replaceFirst("(\\d+ \\d+ \\d+ \\d+ \\d+) \\d+", "$1 0").equals(after) ? 1 : 0, 1);
        is("40 the law", x.has(0, 0, 4), 2);
        is("40 no such house", x.at(2, 0), -1);
        is("40 no such person", x.of(3, 0), -1);
        is("40 no such law", x.force(1), -2);
        x.forget();
        is("40 forgotten", x.count(3), 0);
        x.back(1);
        is("40 clues come back", x.count(3), 1);
        is("40 no clue of later", x.who(), 1);
        x.house(3, 3);
        x.person(3, 3, 3);
        is("40 new ones are new", x.has(3, 2, 0), 0);
        is("40 new ones are new", x.at(2, 2), 0);
    }

    /** keep all but the TAPE, FAULT, RUST, where ORDERS stopped, what can be undone, the latest GENERATIONS. */
    private static void imagesDoNotKeep() {
        BellHeirs x = small();
        x.right(2, 1, 9);
        x.will(2, 1);
        x.image(0);
        Due.law(x, "tires what");
        is("18", x.fault(), 6);
        x.back(0);
        is("40 fault stays", x.fault(), 6);
        Due.put(x, new byte[] {1, 2});
        x.row();
        x.back(0);
        is("40 rust stays", x.rust(), 1);
        Due.orders(x, "pass;pass;die 9");
        x.back(0);
        is("40 stopped stays", x.stopped(), 2);
        is("40 fault of those orders stays", x.fault(), -1);
        x.right(0, 0, 77);
        x.generations(0, 1);
        int then = x.drawn(0, 0);
        x.back(0);
        is("40 drawn stays", x.drawn(0, 0), then);
        is("40 drawn stays", x.has(0, 0, 0), 0);
        Due.put(x, "pass");
        x.back(0);
        is("40 the tape stays", x.count(6), 4);
        is("40 the tape stays", x.orders(), 1);
        x.image(0);
        is("39 what can be undone stays", x.count(5), 1);
        x.back(0);
        is("40 nothing can be undone", x.count(5), 0);
        is("40 nothing can be undone", x.undo(), -3);
        is("40 the year stays", x.count(13), 1);
    }

    /** (IMAGES stay). */
    private static void imagesStay() {
        BellHeirs x = small();
        x.image(0);
        x.terms(0, 5);
        x.image(1);
        x.terms(0, 9);
        x.back(0);
        is("40", x.count(13), 0);
        x.terms(0, 3);
        x.back(1);
        is("40", x.count(13), 5);
        x.pass();
        x.back(1);
        is("40 again", x.count(13), 5);
        x.back(0);
        is("40 again", x.count(13), 0);
        x.terms(0, 8);
        x.image(0);
        x.back(1);
        x.back(0);
        is("39 written over", x.count(13), 8);
        x.back(1);
        is("39 the other one stays", x.count(13), 5);
    }

    /** An IMAGE of a suburb without bells is kept, too. */
    private static void imagesOfNothing() {
        BellHeirs x = new BellHeirs();
        is("39", x.image(0), 0);
        x.house(0, 0);
        x.person(0, 0, 0);
        Due.law(x, "bars");
        x.force(0);
        is("40", x.back(0), 0);
        is("40", x.count(0) + x.count(1) + x.count(4) + x.count(12), -1);
        is("40 numbers begin anew", x.house(5, 5), 0);
        is("40 numbers begin anew", x.person(5, 5, 5), 0);
        is("40 numbers begin anew", Due.law(x, "opens"), 0);
        is("40 not that law", x.force(0), -1);
        is("40 not that law", x.asks(0, 0, 0, 1), -1);
        x.person(5, 5, 5);
        is("40 not that law", x.asks(0, 1, 0, 1), 0);
    }

    /** all that it keeps: two suburbs with the same numbers and nothing else alike. */
    private static void imagesOfUnlikeSuburbs() {
        BellHeirs x = new BellHeirs();
        x.image(0);
        x.house(1, 2);
        x.person(3, 4, 5);
        x.right(0, 0, 6);
        x.clue(0, 2);
        Due.law(x, "tires 7");
        x.force(0);
        x.image(1);
        x.back(0);
        x.house(11, 12);
        x.house(21, 22);
        x.person(13, 14, 15);
        x.right(0, 0, 16);
        x.right(0, 1, 26);
        x.clue(1, 3);
        Due.law(x, "tires 17");
        x.force(0);
        x.image(0);
        for (int i = 0; i < 2; i++) {
            x.back(1);
            is("40 place", x.at(0, 0), 1);
            is("40 bears", x.at(0, 1), 2);
            is("40 home", x.of(0, 0), 3);
            is("40 age", x.of(0, 1), 4);
            is("40 purse", x.of(0, 2), 5);
            is("40 rights", x.at(0, 3), 6);
            is("40 law", x.has(0, 0, 4), 7);
            is("40 clue", x.who(), 1);
            x.back(0);
            is("40 place", x.at(0, 0), 11);
            is("40 bears", x.at(0, 1), 12);
            is("40 home", x.of(0, 0), 13);
            is("40 age", x.of(0, 1), 14);
            is("40 purse", x.of(0, 2), 15);
            is("40 rights", x.at(0, 3), 16);
            is("40 law", x.has(0, 0, 4), 17);
            is("40 clue: of 13 to 21 there are four steps", x.who(), 0);
        }
        x.right(0, 0, 0);
        x.forget();
        x.clue(1, 4);
        is("40 clue: four are told", x.who(), 1);
        x.image(0);
        x.back(1);
        x.forget();
        x.clue(0, 1);
        is("40 one step is told, it is two", x.who(), 0);
        x.back(0);
        is("40 that house, those steps", x.who(), 1);
    }

    // ---------------------------------------------------------------- what is read

    private static void reading() {
        atNone();
        ofNone();
        hasNone();
        asksNone();
        forceOfWhich();
        fiveHundredAndTwelveCalls();
    }

    /** Promise 3: NONE. */
    private static void atNone() {
        BellHeirs x = small();
        x.right(0, 1, 99);
        x.right(1, 1, 99);
        x.right(2, 1, 99);
        for (int what = 0; what <= 4; what++) {
            is("3 house -1", x.at(-1, what), -1);
            is("3 house 2", x.at(2, what), -1);
            is("3 house least", x.at(LOW, what), -1);
            is("3 house greatest", x.at(HIGH, what), -1);
        }
        is("3 what -1", x.at(1, -1), -1);
        is("3 what 5", x.at(1, 5), -1);
        is("3 what least", x.at(1, LOW), -1);
        is("3 what greatest", x.at(1, HIGH), -1);
        is("3 place", x.at(1, 0), 7);
        is("3 bears", x.at(1, 1), 9);
        is("3 weary", x.at(1, 2), 0);
        is("3 all rights", x.at(1, 3), 297);
        is("3 all rights", x.at(0, 3), 0);
        is("3 worth", x.at(1, 4), 10);
    }

    /** Promise 5: NONE. */
    private static void ofNone() {
        BellHeirs x = small();
        for (int what = 0; what <= 5; what++) {
            is("5 person -1", x.of(-1, what), -1);
            is("5 person 3", x.of(3, what), -1);
            is("5 person least", x.of(LOW, what), -1);
            is("5 person greatest", x.of(HIGH, what), -1);
        }
        is("5 what -1", x.of(2, -1), -1);
        is("5 what 6", x.of(2, 6), -1);
        is("5 what least", x.of(2, LOW), -1);
        is("5 what greatest", x.of(2, HIGH), -1);
        is("5 home", x.of(2, 0), 6);
        is("5 age", x.of(2, 1), 20);
        is("5 purse", x.of(2, 2), 20);
        is("5 want", x.of(2, 3), -1);
        is("5 heirs", x.of(2, 4), 0);
        is("5 lives", x.of(2, 5), 1);
    }

    /** Promise 9: NONE. */
    private static void hasNone() {
        BellHeirs x = small();
        x.right(2, 1, 4);
        x.ring(2, 1);
        for (int what = 0; what <= 4; what++) {
            is("9 person -1", x.has(-1, 1, what), -1);
            is("9 person 3", x.has(3, 1, what), -1);
            is("9 house -1", x.has(2, -1, what), -1);
            is("9 house 2", x.has(2, 2, what), -1);
            is("9 far ones", x.has(LOW, HIGH, what), -1);
        }
        is("9 what -1", x.has(2, 1, -1), -1);
        is("9 what 5", x.has(2, 1, 5), -1);
        is("9 rights", x.has(2, 1, 0), 4);
        is("9 used", x.has(2, 1, 1), 1);
        is("9 left", x.has(2, 1, 2), 3);
        is("9 opens", x.has(2, 1, 3), 1);
        is("9 tires", x.has(2, 1, 4), 1);
        x.die(2);
        is("9 dead: rights", x.has(2, 1, 0), 0);
        is("9 dead: used", x.has(2, 1, 1), 0);
        is("9 dead: left", x.has(2, 1, 2), 0);
    }

    /** Promise 10: NONE (to oneself, too). */
    private static void asksNone() {
        BellHeirs x = small();
        x.right(0, 0, 1);
        for (int what = 0; what <= 2; what++) {
            is("10 oneself", x.asks(0, 0, 0, what), -1);
            is("10 from -1", x.asks(-1, 0, 0, what), -1);
            is("10 from 3", x.asks(3, 0, 0, what), -1);
            is("10 to -1", x.asks(0, -1, 0, what), -1);
            is("10 to 3", x.asks(0, 3, 0, what), -1);
            is("10 house -1", x.asks(0, 1, -1, what), -1);
            is("10 house 2", x.asks(0, 1, 2, what), -1);
            is("10 far ones", x.asks(LOW, HIGH, 0, what), -1);
        }
        is("10 what -1", x.asks(0, 2, 0, -1), -1);
        is("10 what 3", x.asks(0, 2, 0, 3), -1);
        is("10 costs", x.asks(0, 2, 0, 0), 5);
        is("10 barred", x.asks(0, 2, 0, 1), 0);
        is("10 can be", x.asks(0, 2, 0, 2), 1);
        is("10 the last ones", x.asks(2, 1, 1, 0), 5);
    }

    /** Promise 20: which was. -2. */
    private static void forceOfWhich() {
        BellHeirs x = small();
        is("20 none there is", x.force(0), -2);
        is("20 NONE", x.force(-1), -1);
        is("20 one fewer than NONE", x.force(-2), -2);
        for (int i = 0; i < 6; i++) {
            is("20 not yet", x.force(i), -2);
            is("16", Due.law(x, "tires " + (i + 2)), i);
            is("20", x.force(i), i - 1);
            is("20 in force", x.has(0, 0, 4), i + 2);
        }
        is("20 seventh", x.force(6), -2);
        is("20 least", x.force(LOW), -2);
        is("20 greatest", x.force(HIGH), -2);
        is("20 stays", x.count(12), 5);
        is("20 NONE", x.force(-1), 5);
        is("20 as without a law", x.has(0, 0, 4), 1);
    }

    /** An object is used for at most 512 calls after it has been made: the last of them is answered, too. */
    private static void fiveHundredAndTwelveCalls() {
        BellHeirs x = new BellHeirs();
        x.house(0, 0);
        x.person(0, 0, 0);
        x.right(0, 0, 99);
        for (int calls = 3; calls < 510; calls += 3) {
            is("ring", x.ring(0, 0), 1);
            is("used", x.has(0, 0, 1), 1);
            is("undo", x.undo(), 0);
        }
        is("the 511th", x.ring(0, 0), 1);
        is("the 512th", x.at(0, 2), 1);
    }
}
