/** Promises 1 to 15, 20 to 25 and 39 to 42: what stands, what changes it, and what is gone back to. */
public final class StateTest {
    private static final Due due = new Due("StateTest");

    private static void is(String call, long got, long want) {
        due.is(call, got, want);
    }

    public static void main(String[] args) {
        promise1();
        promises2And3();
        promises4And5();
        promises6And7();
        promises8And9();
        promise10();
        promise11();
        promises12And13();
        promises14And15();
        promise20();
        promise21();
        promise22();
        promise23();
        promise24();
        promise25();
        promises39And40();
        promises41And42();
        due.end();
    }

    private static BellHeirs small() {
        BellHeirs x = new BellHeirs();
        x.house(0, 5);
        x.house(7, 9);
        x.person(0, 40, 50);
        x.person(1, 30, 20);
        x.person(6, 20, 7);
        return x;
    }

    private static void promise1() {
        BellHeirs x = new BellHeirs();
        for (int what = 0; what <= 11; what++) {
            is("1 count " + what, x.count(what), 0);
        }
        is("1 force", x.count(12), -1);
        is("1 year", x.count(13), 0);
        is("1 sleep", x.count(14), 3);
        is("1 mood", x.count(15), 0);
        is("1 none", x.count(16), -1);
        is("1 none", x.count(-1), -1);
        is("1 status", x.status(), 0);
        is("1 fault", x.fault(), -1);
        is("1 stopped", x.stopped(), -1);
        is("1 rust", x.rust(), 0);
    }

    private static void promises2And3() {
        BellHeirs x = new BellHeirs();
        is("2", x.house(24, 99), 0);
        is("2", x.house(0, 0), 1);
        is("2 place", x.house(25, 0), -1);
        is("2 place", x.house(-1, 0), -1);
        is("2 bears", x.house(0, 100), -1);
        is("2 bears", x.house(0, -1), -1);
        for (int i = 2; i < 6; i++) {
            is("2", x.house(24, i), i);
        }
        is("2 room", x.house(0, 0), -5);
        is("2 number ahead of room", x.house(0, 100), -1);
        is("3 place", x.at(0, 0), 24);
        is("3 bears", x.at(0, 1), 99);
        is("3 weary", x.at(0, 2), 0);
        is("3 rights", x.at(0, 3), 0);
        is("3 worth", x.at(0, 4), 10);
        is("3 bears", x.at(5, 1), 5);
        is("3", x.at(6, 0), -1);
        is("3", x.at(-1, 0), -1);
        is("3", x.at(0, 5), -1);
        is("3", x.at(0, -1), -1);
        is("3", x.at(Integer.MIN_VALUE, 0), -1);
    }

    private static void promises4And5() {
        BellHeirs x = new BellHeirs();
        is("4", x.person(24, 99, 999), 0);
        is("4", x.person(0, 0, 0), 1);
        is("4", x.person(25, 0, 0), -1);
        is("4", x.person(-1, 0, 0), -1);
        is("4", x.person(0, 100, 0), -1);
        is("4", x.person(0, -1, 0), -1);
        is("4", x.person(0, 0, 1000), -1);
        is("4", x.person(0, 0, -1), -1);
        for (int i = 2; i < 8; i++) {
            is("4", x.person(i, i, i), i);
        }
        is("4 room", x.person(0, 0, 0), -5);
        is("4 number ahead of room", x.person(0, 0, -1), -1);
        is("5", x.of(0, 0), 24);
        is("5", x.of(0, 1), 99);
        is("5", x.of(0, 2), 999);
        is("5", x.of(0, 3), -1);
        is("5", x.of(0, 4), 0);
        is("5", x.of(0, 5), 1);
        is("5", x.of(0, 6), -1);
        is("5", x.of(0, -1), -1);
        is("5", x.of(8, 0), -1);
        is("5", x.of(-1, 0), -1);
        is("5", x.of(7, 1), 7);
        x.die(7);
        is("5 dead", x.of(7, 5), 0);
        is("5 dead", x.of(7, 2), 7);
    }

    private static void promises6And7() {
        BellHeirs x = small();
        is("6", x.want(0, 1), 0);
        is("6", x.of(0, 3), 1);
        is("6 no house", x.want(0, 2), -1);
        is("6 no house", x.want(0, -2), -1);
        is("6 no house ahead of no person", x.want(9, 2), -1);
        is("6 no person", x.want(3, 0), -2);
        is("6 no person", x.want(-1, -1), -2);
        is("6 stays", x.of(0, 3), 1);
        is("6 nothing", x.want(0, -1), 0);
        is("6", x.of(0, 3), -1);
        is("7", x.will(0, 6), 0);
        is("7", x.will(0, 2), 6);
        is("7", x.of(0, 4), 2);
        is("7 itself", x.will(0, 3), -1);
        is("7 stranger", x.will(0, 8), -1);
        is("7 stranger", x.will(0, -1), -1);
        is("7 stranger", x.will(0, Integer.MIN_VALUE), -1);
        is("7 stranger ahead of no person", x.will(5, 32), -1);
        is("7 no person", x.will(3, 7), -2);
        is("7 no person", x.will(32, 1), -2);
        is("7 no person", x.will(-1, 0), -2);
        is("7 none", x.will(0, 0), 2);
        is("7 heirs who died", x.die(1), 0);
        is("7 heirs who died", x.will(0, 6), 0);
        is("7 of one who died", x.will(1, 1), 0);
        is("7 of one who died", x.of(1, 4), 1);
        is("6 of one who died", x.want(1, 1), 0);
        is("6 of one who died", x.of(1, 3), 1);
    }

    private static void promises8And9() {
        BellHeirs x = small();
        is("8", x.right(0, 0, 99), 0);
        is("8", x.right(0, 0, 3), 99);
        is("8", x.right(0, 0, 100), -1);
        is("8", x.right(0, 0, -1), -1);
        is("8 number ahead", x.right(9, 0, -1), -1);
        is("8", x.right(3, 0, 1), -2);
        is("8", x.right(0, 2, 1), -2);
        is("8", x.right(-1, 0, 1), -2);
        is("8", x.right(0, -1, 1), -2);
        is("9", x.has(0, 0, 0), 3);
        is("9", x.has(0, 0, 1), 0);
        is("9", x.has(0, 0, 2), 3);
        is("9", x.has(0, 0, 3), 1);
        is("9", x.has(0, 0, 4), 1);
        x.ring(0, 0);
        x.ring(0, 0);
        is("9", x.has(0, 0, 1), 2);
        is("9", x.has(0, 0, 2), 1);
        is("8 fewer than used", x.right(0, 0, 1), -3);
        is("8 as many as used", x.right(0, 0, 2), 3);
        is("9", x.has(0, 0, 2), 0);
        is("9", x.has(0, 0, 5), -1);
        is("9", x.has(0, 0, -1), -1);
        is("9", x.has(3, 0, 0), -1);
        is("9", x.has(0, 2, 0), -1);
        is("9", x.has(-1, 0, 0), -1);
        is("9", x.has(0, -1, 0), -1);
        x.die(0);
        is("8 dead", x.right(0, 0, 0), -3);
        is("9 dead", x.has(0, 0, 0), 0);
        is("9 dead", x.has(0, 0, 1), 0);
        is("9 dead", x.has(0, 0, 3), 1);
        x.right(1, 1, 99);
        for (int i = 0; i < 9; i++) {
            is("9 opens", x.ring(1, 1), 1);
        }
        is("9 weary 9", x.has(1, 1, 3), 1);
        is("9 weary 9", x.ring(1, 1), 1);
        is("9 weary 10", x.has(1, 1, 3), 0);
        is("9 weary 10", x.ring(1, 1), 0);
        is("9 weary 11", x.at(1, 2), 11);
        for (int i = 0; i < 88; i++) {
            x.ring(1, 1);
        }
        is("3 weary 99", x.at(1, 2), 99);
    }

    private static void promise10() {
        BellHeirs x = small();
        x.right(0, 0, 1);
        is("10", x.asks(0, 1, 0, 0), 5);
        is("10", x.asks(0, 1, 0, 1), 0);
        is("10", x.asks(0, 1, 0, 2), 1);
        is("10 nothing left", x.asks(1, 0, 0, 2), 0);
        is("10 nothing left", x.asks(1, 0, 0, 0), 5);
        is("10 oneself", x.asks(0, 0, 0, 0), -1);
        is("10", x.asks(3, 0, 0, 0), -1);
        is("10", x.asks(0, 3, 0, 0), -1);
        is("10", x.asks(0, 1, 2, 0), -1);
        is("10", x.asks(-1, 1, 0, 0), -1);
        is("10", x.asks(0, -1, 0, 0), -1);
        is("10", x.asks(0, 1, -1, 0), -1);
        is("10", x.asks(0, 1, 0, 3), -1);
        is("10", x.asks(0, 1, 0, -1), -1);
        x.right(1, 0, 99);
        is("10 rights full", x.asks(0, 1, 0, 2), 0);
        is("10 not full", x.right(1, 0, 98), 99);
        is("10 not full", x.asks(0, 1, 0, 2), 1);
        Due.law(x, "costs 21;bars if to = 2");
        x.force(0);
        is("10 purse", x.asks(0, 1, 0, 0), 21);
        is("10 purse", x.asks(0, 1, 0, 2), 0);
        is("10 barred", x.asks(0, 2, 0, 1), 1);
        x.force(-1);
        x.die(1);
        is("10 dead", x.asks(0, 1, 0, 0), 5);
        is("10 dead", x.asks(0, 1, 0, 2), 0);
    }

    private static void promise11() {
        BellHeirs x = small();
        is("11", x.terms(0, 999), 0);
        is("11", x.terms(0, 5), 999);
        is("11", x.terms(1, 10), 3);
        is("11", x.terms(1, 0), 10);
        is("11", x.terms(2, 9), 0);
        is("11", x.terms(2, 1), 9);
        is("11", x.terms(0, 1000), -1);
        is("11", x.terms(0, -1), -1);
        is("11", x.terms(1, 11), -1);
        is("11", x.terms(1, -1), -1);
        is("11", x.terms(2, 10), -1);
        is("11", x.terms(2, -1), -1);
        is("11", x.terms(3, 0), -1);
        is("11", x.terms(-1, 0), -1);
        is("41 year", x.count(13), 5);
        is("41 sleep", x.count(14), 0);
        is("41 mood", x.count(15), 1);
    }

    private static void promises12And13() {
        BellHeirs x = new BellHeirs();
        is("13 empty", x.end(0), 0);
        is("13 more than there are", x.end(1), -1);
        is("13 below 0", x.end(-1), -1);
        for (int i = 1; i <= 20; i++) {
            is("12", x.feed(0x20202020, 0x20202020, 0x20202020, 0x20202020, 0x20202020), 20 * i);
        }
        is("12 full", x.feed(0, 0, 0, 0, 0), -1);
        is("41 full", x.count(6), 400);
        is("13", x.end(401), -1);
        is("13", x.end(400), 400);
        is("13", x.end(381), 381);
        is("12 no room for twenty", x.feed(0, 0, 0, 0, 0), -1);
        is("13", x.end(380), 380);
        is("12 just room", x.feed(0, 0, 0, 0, 0), 400);
        is("13", x.end(3), 3);
        is("41 cut", x.count(6), 3);
        is("42 not of these", x.status(), 0);
        is("41 not of these", x.count(7), 0);
        x.end(0);
        x.feed(0x01020304, 0, 0, 0, 0x7f63ff0a);
        x.end(4);
        is("12 the highest first", x.row(), 1);
        is("12 the highest first", x.of(0, 0), 1);
        is("12 the highest first", x.of(0, 1), 2);
        is("12 the highest first", x.of(0, 2), 34);
        x.feed(0x20202020, 0x20202020, 0x20202020, 0x20202020, 0xff636363);
        is("12 below 0", x.law(), -6);
        is("12 below 0", x.fault(), 16);
    }

    private static void promises14And15() {
        BellHeirs x = new BellHeirs();
        is("14 empty", x.row(), -6);
        is("15 ahead of any", x.rust(), 0);
        Due.put(x, new byte[] {24, 99, 99, 9, 0, 0, 0, 0, 25, 0, 0, 0, 0, 100, 0, 0, 0, 0, 100, 0, 0, 0, 0, 10,
            0, 0, 99, 10, (byte) 255, 0, 0, 0, 1, 2, 3});
        is("14", x.row(), 2);
        is("15", x.rust(), 7);
        is("14 the tape is empty", x.count(6), 0);
        is("14", x.of(0, 0), 24);
        is("14", x.of(0, 1), 99);
        is("14", x.of(0, 2), 999);
        is("14", x.of(1, 2), 0);
        is("14 empty", x.row(), -6);
        is("15 stays", x.rust(), 7);
        Due.put(x, new byte[28]);
        is("14 no room", x.row(), 6);
        is("15 no room", x.rust(), 1);
        Due.put(x, new byte[8]);
        is("14 no room", x.row(), 0);
        is("15 no room", x.rust(), 2);
        is("42 no room", x.status(), 0);
        Due.put(x, new byte[1]);
        is("14", x.row(), 0);
        is("15", x.rust(), 1);
    }

    private static void promise20() {
        BellHeirs x = small();
        is("20", x.force(0), -2);
        is("20", x.force(-2), -2);
        is("20", x.force(-1), -1);
        is("42", x.status(), 0);
        Due.law(x, "tires 7");
        Due.law(x, "tires 8");
        is("20 none yet", x.has(0, 0, 4), 1);
        is("20", x.force(0), -1);
        is("42 told NONE", x.status(), 0);
        is("20", x.has(0, 0, 4), 7);
        is("20", x.force(1), 0);
        is("20", x.has(0, 0, 4), 8);
        is("20", x.force(2), -2);
        is("20 stays", x.count(12), 1);
        is("20", x.force(-1), 1);
        is("20", x.has(0, 0, 4), 1);
        is("41", x.count(8), 3);
    }

    private static void promise21() {
        BellHeirs x = small();
        x.right(0, 1, 2);
        is("21", x.ring(0, 1), 1);
        is("21", x.has(0, 1, 1), 1);
        is("21", x.at(1, 2), 1);
        is("21", x.ring(0, 0), -3);
        is("21", x.ring(3, 0), -2);
        is("21", x.ring(0, 2), -2);
        is("21", x.ring(-1, 0), -2);
        is("21", x.ring(0, -1), -2);
        is("21", x.ring(0, 1), 1);
        is("21 nothing left", x.ring(0, 1), -3);
        x.pass();
        x.die(0);
        is("21 dead", x.ring(0, 1), -3);
        // Both are asked with LEFT and WEARY as they were ahead.
        BellHeirs y = small();
        y.right(0, 0, 3);
        Due.law(y, "opens if left = 3 and weary = 0;tires left * 2 + weary");
        y.force(0);
        is("21 as ahead", y.ring(0, 0), 1);
        is("21 as ahead", y.at(0, 2), 6);
        is("21 shut", y.ring(0, 0), 0);
        is("21 wearies shut too", y.at(0, 2), 16);
    }

    private static void promise22() {
        BellHeirs x = small();
        x.right(0, 0, 3);
        is("22", x.sell(0, 1, 0), 5);
        is("22", x.has(0, 0, 0), 2);
        is("22", x.has(1, 0, 0), 1);
        is("22", x.of(0, 2), 55);
        is("22", x.of(1, 2), 15);
        is("22 oneself", x.sell(0, 0, 0), -1);
        is("22 oneself ahead of none", x.sell(-7, -7, 9), -1);
        is("22", x.sell(3, 0, 0), -2);
        is("22", x.sell(0, 3, 0), -2);
        is("22", x.sell(0, 1, 2), -2);
        is("22", x.sell(0, 1, -1), -2);
        is("22 nothing left", x.sell(2, 0, 0), -3);
        x.ring(0, 0);
        x.sell(0, 1, 0);
        is("22 one is used", x.has(0, 0, 2), 0);
        is("22 one is used", x.sell(0, 1, 0), -3);
        is("22 purse", x.sell(1, 2, 0), 5);
        is("22 purse 2", x.sell(1, 2, 0), -3);
        x.right(0, 0, 99);
        is("22 full", x.sell(1, 0, 0), -3);
        x.right(0, 0, 98);
        is("22 not full", x.sell(1, 0, 0), 5);
        x.right(0, 0, 9);
        x.right(1, 0, 9);
        x.die(1);
        is("22 dead", x.sell(0, 1, 0), -3);
        is("22 dead", x.sell(1, 0, 0), -3);
        BellHeirs y = new BellHeirs();
        y.house(0, 0);
        y.person(0, 0, 900);
        y.person(0, 0, 999);
        y.right(0, 0, 2);
        Due.law(y, "costs 999;bars if left = 1");
        y.force(0);
        is("22", y.sell(0, 1, 0), 999);
        is("22 purse at most", y.of(0, 2), 999);
        is("22", y.of(1, 2), 0);
        y.force(-1);
        is("22 purse", y.sell(1, 0, 0), 5);
        y.force(0);
        is("22", y.has(0, 0, 0), 2);
        y.ring(0, 0);
        is("22 barred", y.asks(0, 1, 0, 1), 1);
        is("22 barred", y.sell(0, 1, 0), -3);
    }

    private static void promise23() {
        BellHeirs x = new BellHeirs();
        x.house(0, 0);
        x.house(0, 0);
        for (int i = 0; i < 5; i++) {
            x.person(0, 0, 10);
        }
        x.right(0, 0, 8);
        x.right(0, 1, 2);
        x.right(1, 0, 97);
        x.will(0, 30);
        x.ring(0, 0);
        x.die(2);
        is("23", x.die(0), 3);
        is("23 full", x.has(1, 0, 0), 99);
        is("23 dead heir", x.has(2, 0, 0), 0);
        is("23 rest to the lowest", x.has(3, 0, 0), 3);
        is("23", x.has(4, 0, 0), 2);
        is("23", x.has(1, 1, 0), 1);
        is("23", x.has(3, 1, 0), 1);
        is("23", x.has(4, 1, 0), 0);
        is("23 own", x.has(0, 0, 0), 0);
        is("23 used", x.has(0, 0, 1), 0);
        is("23 the purse stays", x.of(0, 2), 10);
        is("23 dead", x.die(0), -3);
        is("23", x.die(5), -2);
        is("23", x.die(-1), -2);
        is("23 without heirs", x.die(1), 0);
        is("23 lost", x.at(0, 3), 5);
        is("41", x.count(2), 2);
    }

    private static void promise24() {
        BellHeirs x = small();
        x.right(0, 0, 3);
        x.ring(0, 0);
        is("24", x.pass(), 1);
        is("24", x.has(0, 0, 1), 0);
        is("24", x.has(0, 0, 0), 3);
        is("24", x.at(0, 2), 0);
        is("24", x.count(13), 1);
        x.terms(0, 998);
        is("24", x.pass(), 999);
        is("24", x.pass(), -3);
        is("24", x.count(13), 999);
    }

    private static void promise25() {
        BellHeirs x = small();
        is("25 none", x.undo(), -3);
        x.right(0, 0, 9);
        x.will(0, 2);
        x.ring(0, 0);
        x.sell(0, 1, 0);
        x.pass();
        x.die(0);
        is("41", x.count(5), 4);
        // What is no deed is not undone, and undoes nothing.
        x.want(1, 1);
        x.will(1, 4);
        x.clue(0, 5);
        Due.law(x, "tires 3");
        x.force(0);
        x.image(0);
        is("25 refused ones take nothing", x.right(0, 0, 1), -3);
        is("25 refused ones take nothing", x.terms(0, -1), -1);
        is("25 refused ones take nothing", x.row(), -6);
        is("25 refused ones take nothing", x.house(-1, 0), -1);
        is("25 refused ones take nothing", x.person(-1, 0, 0), -1);
        is("41", x.count(5), 4);
        is("25", x.undo(), 2);
        is("25", x.has(0, 0, 0), 8);
        is("25", x.has(1, 0, 0), 1);
        is("25", x.of(0, 5), 1);
        is("25", x.undo(), 3);
        is("25", x.count(13), 0);
        is("25", x.has(0, 0, 1), 1);
        is("25", x.at(0, 2), 1);
        is("25", x.undo(), 1);
        is("25", x.of(0, 2), 50);
        is("25", x.of(1, 2), 20);
        is("25", x.undo(), 0);
        is("25", x.has(0, 0, 1), 0);
        is("25", x.at(0, 2), 0);
        is("25", x.undo(), -3);
        is("25 stays", x.of(1, 3), 1);
        is("25 stays", x.of(1, 4), 4);
        is("25 stays", x.count(3), 1);
        is("25 stays", x.count(12), 0);
        x.right(0, 0, 99);
        for (int i = 0; i < 20; i++) {
            x.ring(0, 0);
        }
        is("41 sixteen", x.count(5), 16);
        for (int i = 0; i < 16; i++) {
            is("25 sixteen", x.undo(), 0);
        }
        is("25 sixteen", x.undo(), -3);
        is("25 sixteen", x.has(0, 0, 1), 4);
        clears(x);
    }

    private static void clears(BellHeirs x) {
        x.ring(0, 0);
        x.house(1, 1);
        is("25 behind house", x.undo(), -3);
        x.ring(0, 0);
        x.person(1, 1, 1);
        is("25 behind person", x.undo(), -3);
        x.ring(0, 0);
        x.right(1, 1, 0);
        is("25 behind right", x.undo(), -3);
        x.ring(0, 0);
        Due.put(x, new byte[] {99});
        x.row();
        is("25 behind row", x.undo(), -3);
        x.ring(0, 0);
        x.terms(2, 0);
        is("25 behind terms", x.undo(), -3);
        x.ring(0, 0);
        Due.orders(x, "ring 0 at 0 times 2;pass");
        is("25 by orders", x.undo(), 3);
        is("25 by orders", x.undo(), 0);
        is("25 by orders", x.undo(), 0);
        is("25 ahead of orders", x.undo(), 0);
        is("25", x.undo(), -3);
        for (int i = 0; i < 16; i++) {
            x.ring(0, 0);
        }
        is("25 orders that can't be", Due.orders(x, "pass;ring 0 at 0 times 12;pass times 3;die 7"), -3);
        is("25 orders that can't be", x.count(5), 16);
        for (int i = 0; i < 16; i++) {
            is("25 all as ahead", x.undo(), 0);
        }
    }

    private static void promises39And40() {
        BellHeirs x = small();
        is("39", x.image(2), -1);
        is("39", x.image(-1), -1);
        is("40", x.back(2), -1);
        is("40", x.back(-1), -1);
        is("40", x.back(0), -2);
        x.right(0, 0, 7);
        x.will(0, 2);
        x.want(0, 1);
        x.clue(1, 4);
        x.terms(1, 6);
        x.terms(2, 8);
        Due.law(x, "tires 3");
        x.force(0);
        x.ring(0, 0);
        is("39", x.image(0), 0);
        is("40", x.back(1), -2);
        x.house(3, 3);
        x.person(3, 3, 3);
        x.right(3, 2, 5);
        x.will(0, 4);
        x.want(0, 0);
        x.clue(1, 1);
        x.terms(0, 50);
        x.terms(1, 1);
        x.terms(2, 1);
        Due.law(x, "tires 4");
        x.force(1);
        x.die(0);
        is("39", x.image(1), 0);
        x.generations(1, 5);
        Due.put(x, new byte[] {1, 1, 1, 1, 1});
        x.row();
        Due.law(x, "tires x");
        Due.orders(x, "pass;die 7");
        Due.put(x, "abcde");
        int refusals = x.count(7);
        x.pass();
        is("40", x.back(0), 0);
        is("40 houses", x.count(0), 2);
        is("40 people", x.count(1), 3);
        is("40 living", x.count(2), 3);
        is("40 clues", x.count(3), 1);
        is("40 laws", x.count(4), 1);
        is("40 nothing to undo", x.count(5), 0);
        is("40 the tape stays", x.count(6), 5);
        is("40 refusals stay", x.count(7), refusals);
        is("40 force", x.count(12), 0);
        is("40 year", x.count(13), 0);
        is("40 sleep", x.count(14), 6);
        is("40 mood", x.count(15), 8);
        is("40 fault stays", x.fault(), -1);
        is("40 stopped stays", x.stopped(), 1);
        is("40 rust stays", x.rust(), 1);
        is("40 drawn stays", x.drawn(3, 2), 5);
        is("40", x.has(0, 0, 0), 7);
        is("40", x.has(0, 0, 1), 1);
        is("40", x.at(0, 2), 3);
        is("40", x.of(0, 4), 2);
        is("40", x.of(0, 3), 1);
        is("40", x.has(0, 0, 4), 3);
        // A new one in the room of one that was gone back from is new.
        x.house(9, 9);
        x.person(9, 9, 9);
        is("40 new", x.has(3, 2, 0), 0);
        Due.law(x, "");
        x.end(0);
        is("40 another law", Due.law(x, "tires 5"), 1);
        is("40", x.back(1), 0);
        is("40 the old law", x.has(1, 0, 4), 4);
        is("40", x.has(3, 2, 0), 5);
        is("40", x.count(2), 3);
        is("40 images stay", x.back(0), 0);
        is("40", x.count(0), 2);
        is("39 kept anew", x.image(1), 0);
        is("40", x.back(1), 0);
        is("40", x.count(0), 2);
    }

    private static void promises41And42() {
        BellHeirs x = small();
        x.house(-1, 0);
        is("42", x.status(), -1);
        is("42 reading leaves it", x.at(9, 9), -1);
        is("42 reading leaves it", x.status(), -1);
        is("42 forget leaves it", x.forget(), 0);
        is("42 forget leaves it", x.status(), -1);
        x.ring(9, 0);
        is("42", x.status(), -2);
        x.undo();
        is("42", x.status(), -3);
        for (int i = 0; i < 6; i++) {
            x.clue(0, 0);
        }
        is("42", x.status(), 0);
        x.clue(0, 0);
        is("42", x.status(), -5);
        x.row();
        is("42", x.status(), -6);
        is("41", x.count(7), 1);
        is("41", x.count(8), 1);
        is("41", x.count(9), 1);
        is("41", x.count(10), 1);
        is("41", x.count(11), 1);
        x.generations(-1, 1);
        is("42 generations", x.status(), -1);
        x.image(0);
        is("42 image", x.status(), 0);
        x.back(1);
        is("42 back", x.status(), -2);
        x.back(0);
        is("42 back", x.status(), 0);
        is("41 images do not keep that", x.count(7), 2);
        is("41 images do not keep that", x.count(8), 2);
        x.want(9, 0);
        is("42 want", x.status(), -2);
        x.will(0, 1);
        is("42 will", x.status(), -1);
        x.right(0, 0, 0);
        is("42 right", x.status(), 0);
        x.terms(9, 0);
        is("42 terms", x.status(), -1);
        x.force(7);
        is("42 force", x.status(), -2);
        x.sell(0, 1, 0);
        is("42 sell", x.status(), -3);
        x.die(9);
        is("42 die", x.status(), -2);
        x.pass();
        is("42 pass", x.status(), 0);
        Due.law(x, "what");
        is("42 law", x.status(), -6);
        Due.orders(x, "die 9");
        is("42 orders", x.status(), -3);
        x.person(0, 0, 0);
        is("42 person", x.status(), 0);
        is("41 houses", x.count(0), 2);
        is("41 people", x.count(1), 4);
        is("41 clues", x.count(3), 6);
    }
}
