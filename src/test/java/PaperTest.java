/** Promises 26 to 38: what is done on paper. */
public final class PaperTest {
    private static final Due due = new Due("PaperTest");

    public static void main(String[] args) {
        promise26();
        promise27();
        promises28To30();
        promise31();
        promise32();
        promise33();
        promise34();
        promise35();
        promise36();
        promises37And38();
        due.end();
    }

    private static void is(String call, long got, long want) {
        due.is(call, got, want);
    }

    private static BellHeirs with(int houses, int people, int purse) {
        BellHeirs x = new BellHeirs();
        for (int i = 0; i < houses; i++) {
            x.house(i, 10);
        }
        for (int i = 0; i < people; i++) {
            x.person(i, 10 * i, purse);
        }
        return x;
    }

    private static void promise26() {
        BellHeirs x = new BellHeirs();
        x.house(4, 0);
        x.house(20, 0);
        x.house(2, 0);
        x.house(2, 0);
        x.house(24, 0);
        x.person(0, 0, 0);
        x.person(12, 0, 0);
        for (int h = 0; h < 4; h++) {
            x.right(0, h, 1);
        }
        is("26 all", x.visits(0, 99, -1), 4);
        // From PLACE 0 by 4, 2, 2, 20 it is 4 + 2 + 0 + 6, by 2, 2, 4, 20 or 20, 2, 2, 4 as many: the first row.
        is("26", x.visits(0, 12, -1), 4);
        is("26 row", x.visits(0, 12, 0), 0);
        is("26 row", x.visits(0, 12, 1), 2);
        is("26 row", x.visits(0, 12, 2), 3);
        is("26 row", x.visits(0, 12, 3), 1);
        is("26 row", x.visits(0, 12, 4), -1);
        is("26", x.visits(0, 11, -1), 3);
        is("26", x.visits(0, 11, 0), 2);
        is("26", x.visits(0, 11, 1), 3);
        is("26", x.visits(0, 11, 2), 0);
        is("26", x.visits(0, 4, -1), 3);
        is("26", x.visits(0, 3, -1), 2);
        is("26", x.visits(0, 1, -1), 0);
        is("26", x.visits(0, 1, 0), -1);
        is("26", x.visits(0, 0, -1), 0);
        x.ring(0, 2);
        is("26 nothing left", x.visits(0, 4, -1), 2);
        is("26 nothing left", x.visits(0, 4, 0), 3);
        is("26", x.visits(1, 99, -1), 0);
        is("26", x.visits(0, 100, -1), -1);
        is("26", x.visits(0, -1, -1), -1);
        is("26", x.visits(2, 5, -1), -1);
        is("26", x.visits(-1, 5, -1), -1);
        is("26", x.visits(0, 5, -2), -1);
        x.right(0, 4, 1);
        x.die(0);
        is("26 dead", x.visits(0, 5, -1), -1);
    }

    private static void promise27() {
        BellHeirs x = with(3, 5, 10);
        is("27 nobody wants", x.exchange(0), 0);
        is("27", x.exchange(1), 100);
        is("27", x.exchange(6), -1);
        is("27", x.exchange(-1), -1);
        is("27", x.exchange(Integer.MIN_VALUE), -1);
        x.want(0, 0);
        x.right(0, 0, 1);
        is("27 not from oneself", x.exchange(0), 0);
        // 0 wants of 1, 1 of 2, 2 of 0; 3 and 0 could change alone.
        x.right(0, 0, 0);
        x.right(1, 0, 1);
        x.want(1, 1);
        x.right(2, 1, 1);
        x.want(2, 2);
        x.right(0, 2, 1);
        x.right(3, 0, 1);
        x.want(3, 2);
        is("27 three", x.exchange(0), 3);
        is("27", x.exchange(1), 1);
        is("27", x.exchange(2), 2);
        is("27", x.exchange(3), 0);
        is("27", x.exchange(4), 100);
        is("27", x.exchange(5), 100);
        x.ring(2, 1);
        is("27 nothing left", x.exchange(0), 2);
        is("27", x.exchange(1), 3);
        is("27", x.exchange(2), 100);
        is("27", x.exchange(4), 0);
        x.die(3);
        is("27 dead", x.exchange(0), 0);
        is("27 dead", x.exchange(4), 100);
        // All can give all: the first row is by the lowest givers.
        BellHeirs y = with(1, 4, 10);
        for (int p = 0; p < 4; p++) {
            y.right(p, 0, 1);
            y.want(p, 0);
        }
        is("27 all", y.exchange(0), 4);
        is("27 first row", y.exchange(1), 1);
        is("27 first row", y.exchange(2), 0);
        is("27 first row", y.exchange(3), 3);
        is("27 first row", y.exchange(4), 2);
        BellHeirs z = with(1, 3, 10);
        for (int p = 0; p < 3; p++) {
            z.right(p, 0, 1);
            z.want(p, 0);
        }
        is("27 all", z.exchange(0), 3);
        is("27 first row", z.exchange(1), 1);
        is("27 first row", z.exchange(2), 2);
        is("27 first row", z.exchange(3), 0);
        z.want(2, -1);
        is("27 two", z.exchange(0), 2);
        is("27 two", z.exchange(3), 100);
    }

    private static void promises28To30() {
        BellHeirs x = new BellHeirs();
        x.house(0, 0);
        x.house(24, 0);
        is("30 nobody", x.who(), 0);
        x.person(0, 0, 0);
        x.person(24, 0, 0);
        x.person(12, 0, 0);
        is("30 without clues", x.who(), 7);
        is("28", x.clue(0, -1), -1);
        is("28", x.clue(0, 100), -1);
        is("28", x.clue(9, 100), -1);
        is("28", x.clue(2, 0), -2);
        is("28", x.clue(-1, 0), -2);
        x.right(0, 0, 2);
        x.right(0, 1, 1);
        x.right(1, 0, 1);
        x.right(2, 0, 3);
        x.right(2, 1, 3);
        is("28", x.clue(0, 4), 1);
        is("30 steps", x.who(), 5);
        is("28", x.clue(1, 8), 2);
        is("30", x.who(), 5);
        is("28", x.clue(0, 99), 3);
        is("30 told twice", x.who(), 5);
        is("28", x.clue(0, 0), 4);
        is("30 three needed", x.who(), 4);
        x.ring(2, 0);
        is("30 left", x.who(), 0);
        is("28", x.clue(0, 0), 5);
        is("28", x.clue(0, 0), 6);
        is("28 room", x.clue(0, 0), -5);
        is("28 room", x.clue(7, 0), -2);
        is("29", x.forget(), 6);
        is("29", x.forget(), 0);
        is("29", x.count(3), 0);
        x.die(1);
        is("30 dead", x.who(), 5);
        x.clue(1, 7);
        is("30", x.who(), 4);
        x.forget();
        x.clue(0, 8);
        x.clue(1, 7);
        is("30 from house to house", x.who(), 0);
    }

    private static void promise31() {
        BellHeirs x = new BellHeirs();
        is("31 no houses", x.look(0), -1);
        x.house(0, 0);
        is("31 nobody", x.look(0), -1);
        x.house(1, 0);
        x.house(2, 0);
        for (int p = 0; p < 4; p++) {
            x.person(0, 0, 0);
        }
        is("31 all alike", x.look(0), 0);
        is("31 all alike", x.look(1), 4);
        x.right(0, 1, 1);
        x.right(0, 2, 1);
        x.right(1, 2, 1);
        is("31", x.look(0), 2);
        is("31", x.look(1), 2);
        x.right(1, 1, 1);
        is("31 the lowest", x.look(0), 1);
        is("31", x.look(2), -1);
        is("31", x.look(-1), -1);
        x.clue(1, 5);
        is("31 of those", x.look(0), 0);
        is("31 of those", x.look(1), 2);
        x.clue(0, 5);
        is("31 nobody", x.look(0), -1);
        is("31 nobody", x.look(1), -1);
        BellHeirs y = new BellHeirs();
        y.person(0, 0, 0);
        is("31 no houses", y.look(1), -1);
        BellHeirs z = with(2, 8, 0);
        is("31 eight", z.look(0), 0);
        is("31 eight", z.look(1), 8);
    }

    private static void promise32() {
        BellHeirs x = with(1, 5, 0);
        is("32", x.amend(0, 0), 0);
        is("32", x.amend(0, 1), 0);
        x.right(0, 0, 4);
        x.right(1, 0, 6);
        is("32 as many as it bears", x.amend(0, 0), 0);
        x.right(2, 0, 5);
        x.right(3, 0, 5);
        is("32", x.amend(0, 0), 2);
        is("32 the lowest", x.amend(0, 1), 3);
        x.right(0, 0, 3);
        x.right(1, 0, 7);
        x.right(2, 0, 6);
        is("32 not those", x.amend(0, 1), 6);
        x.right(4, 0, 99);
        is("32", x.amend(0, 0), 3);
        is("32", x.amend(0, 1), 16 + 4 + 2);
        is("32", x.amend(1, 0), -1);
        is("32", x.amend(-1, 0), -1);
        is("32", x.amend(0, 2), -1);
        is("32", x.amend(0, -1), -1);
        BellHeirs y = new BellHeirs();
        y.house(0, 0);
        is("32 no people", y.amend(0, 0), 0);
        y.person(0, 0, 0);
        y.right(0, 0, 1);
        is("32 bears none", y.amend(0, 1), 1);
    }

    private static void promise33() {
        BellHeirs x = with(1, 4, 0);
        is("33 no rights", x.given(0, 5, 0), 0);
        x.right(0, 0, 1);
        x.right(1, 0, 6);
        x.right(2, 0, 3);
        is("33", x.given(0, 0, 1), 0);
        is("33", x.given(0, 1, 1), 1);
        // 6; 6/2 of 1 ahead of 3 of 2; 3; 6/3; 6/4 of 1 alike 3/2 of 2
        is("33", x.given(0, 2, 1), 2);
        is("33", x.given(0, 3, 2), 1);
        is("33", x.given(0, 4, 1), 3);
        is("33 alike", x.given(0, 5, 1), 4);
        is("33 alike", x.given(0, 5, 2), 1);
        is("33", x.given(0, 6, 2), 2);
        is("33", x.given(0, 99, 0) + x.given(0, 99, 1) + x.given(0, 99, 2), 99);
        is("33 without rights", x.given(0, 99, 3), 0);
        is("33", x.given(0, 100, 0), -1);
        is("33", x.given(0, -1, 0), -1);
        is("33", x.given(1, 1, 0), -1);
        is("33", x.given(0, 1, 4), -1);
        is("33", x.given(0, 1, -1), -1);
        is("33", x.given(-1, 1, 0), -1);
    }

    private static void promise34() {
        BellHeirs x = with(1, 1, 0);
        is("34", x.keep(0, 0, 1, -1), 0);
        is("34", x.keep(0, 0, 1, 0), 0);
        is("34", x.keep(0, 0, 1, 1), -1);
        is("34", x.keep(0, 20, 8, -1), 20 * 10 - 8 - 4 * 2);
        is("34 first row", x.keep(0, 20, 8, 0), 2);
        is("34 first row", x.keep(0, 20, 8, 3), 2);
        is("34 first row", x.keep(0, 20, 8, 4), 3);
        is("34", x.keep(0, 21, 1, -1), -1);
        is("34", x.keep(0, -1, 1, -1), -1);
        is("34", x.keep(0, 1, 0, -1), -1);
        is("34", x.keep(0, 1, 9, -1), -1);
        is("34", x.keep(0, 1, 1, -2), -1);
        is("34", x.keep(1, 1, 1, -1), -1);
        is("34", x.keep(-1, 1, 1, -1), -1);
        Due.law(x, "worth 3 + [year - 5] * [year - 5]");
        x.force(0);
        x.terms(0, 4);
        // 4, 3, 4, 7
        is("34 years go on", x.keep(0, 1, 4, -1), 7);
        is("34 years go on", x.keep(0, 1, 4, 3), 1);
        is("34", x.keep(0, 5, 4, -1), 7 + 6 + 5 + 4 + 4);
        is("34 first row", x.keep(0, 5, 4, 0), 0);
        is("34 first row", x.keep(0, 5, 4, 2), 1);
        is("34 first row", x.keep(0, 5, 4, 3), 4);
        Due.law(x, "worth 0");
        x.force(1);
        is("34 worth nothing", x.keep(0, 5, 2, -1), 0);
        is("34 none is used", x.keep(0, 5, 2, 1), 0);
        x.force(-1);
        x.right(0, 0, 5);
        x.ring(0, 0);
        Due.law(x, "worth weary*9");
        x.force(2);
        is("34 weary as now", x.keep(0, 2, 2, -1), 18);
    }

    private static void promise35() {
        BellHeirs x = with(2, 5, 100);
        is("35 nothing left", x.chain(0, 1, 0, -1), -1);
        x.right(0, 0, 1);
        is("35", x.chain(0, 1, 0, -1), 5);
        is("35", x.chain(0, 1, 0, 0), 1);
        is("35", x.chain(0, 1, 0, 1), -1);
        is("35", x.chain(0, 1, 0, -2), -1);
        is("35 one person", x.chain(0, 0, 0, -1), -1);
        is("35", x.chain(0, 5, 0, -1), -1);
        is("35", x.chain(5, 0, 0, -1), -1);
        is("35", x.chain(0, 1, 2, -1), -1);
        is("35", x.chain(-1, 1, 0, -1), -1);
        is("35", x.chain(0, -1, 0, -1), -1);
        is("35", x.chain(0, 1, -1, -1), -1);
        // From 0 to 4: 50; by 1 and by 2 as well 20; by 3 it is 20 with one more sale.
        Due.law(x, "costs 50;costs 10 if person=0 and to<3;costs 10 if to=4 and [person=1]=0");
        is("16 no test in a sum", x.count(4), 0);
        Due.law(x, "costs 50;costs 10 if person=0 and to<3;costs 10 if person>0 and to=4");
        x.force(0);
        is("35 cheapest", x.chain(0, 4, 0, -1), 20);
        is("35 the lowest", x.chain(0, 4, 0, 0), 1);
        is("35", x.chain(0, 4, 0, 1), 4);
        is("35", x.chain(0, 4, 0, 2), -1);
        x.right(1, 0, 99);
        is("35 rights full", x.chain(0, 4, 0, 0), 2);
        x.die(2);
        is("35 dead", x.chain(0, 4, 0, -1), 50);
        is("35 fewest", x.chain(0, 4, 0, 0), 4);
        is("35 to one who is dead", x.chain(0, 2, 0, -1), -1);
        BellHeirs y = with(1, 4, 100);
        y.right(0, 0, 1);
        Due.law(y, "costs 0;bars if person=0 and to=3;bars if left>0 and to=2");
        y.force(0);
        is("35 barred, left as now", y.chain(0, 3, 0, -1), 0);
        is("35 barred", y.chain(0, 3, 0, 0), 1);
        is("35 barred", y.chain(0, 3, 0, 1), 3);
        is("35", y.chain(0, 2, 0, 0), 1);
        Due.law(y, "costs 101 if to=3");
        y.force(1);
        is("35 purse", y.chain(0, 3, 0, -1), -1);
        Due.law(y, "costs 30;costs 10 if to=person+1");
        y.force(2);
        is("35 alike in cost, fewest sales", y.chain(0, 3, 0, -1), 30);
        is("35 alike in cost, fewest sales", y.chain(0, 3, 0, 0), 3);
        is("35 paper", y.of(3, 2), 100);
    }

    private static void promise36() {
        BellHeirs x = new BellHeirs();
        is("36", x.likely(0, 60), 1000000000000L);
        is("36", x.likely(1, 1), 700000000000L);
        is("36", x.likely(3, 2), 0);
        is("36", x.likely(2, 3), 784000000000L);
        is("36", x.likely(12, 12), 13841287201L);
        is("36 cut", x.likely(13, 13), 9688901040L);
        is("36", x.likely(20, 60) < 1000000000000L ? 1 : 0, 1);
        is("36", x.likely(20, 60) > 999999000000L ? 1 : 0, 1);
        is("36", x.likely(21, 60), -1);
        is("36", x.likely(-1, 60), -1);
        is("36", x.likely(0, 61), -1);
        is("36", x.likely(0, -1), -1);
        x.terms(1, 10);
        is("36 never", x.likely(1, 60), 0);
        is("36 never", x.likely(0, 60), 1000000000000L);
        x.terms(1, 0);
        is("36 always", x.likely(20, 20), 1000000000000L);
        is("36 always", x.likely(20, 19), 0);
        x.terms(1, 5);
        is("36 half", x.likely(1, 3), 875000000000L);
    }

    private static void promises37And38() {
        BellHeirs x = with(0, 2, 0);
        is("37 no houses", x.generations(0, 1), -3);
        is("38 ahead of any", x.drawn(0, 0), -1);
        x = with(2, 0, 0);
        is("37 no people", x.generations(0, 1), -3);
        x = with(2, 3, 0);
        is("37", x.generations(-1, 1), -1);
        is("37", x.generations(1000001, 1), -1);
        is("37", x.generations(0, 0), -1);
        is("37", x.generations(0, 61), -1);
        is("38 ahead of any", x.drawn(0, 0), -1);
        x.right(0, 0, 3);
        x.right(1, 1, 3);
        x.will(0, 6);
        x.will(1, 4);
        // DRAWS from 0: 12345 % 3 = 0, 629259 % 2 = 1 (12345 * 1103 + 12345 = 13628880, less 13 * 1000003
        // is 628841), so by hand: s = 12345, 628841, ...
        long s = 0;
        int opened = 0;
        int[][] rights = {{3, 0}, {0, 3}, {0, 0}};
        int[][] used = new int[3][2];
        boolean[] dead = new boolean[3];
        int[][] heirs = {{1, 2}, {2}, {}};
        for (int i = 0; i < 40; i++) {
            s = (s * 1103 + 12345) % 1000003;
            int p = (int) (s % 3);
            s = (s * 1103 + 12345) % 1000003;
            int h = (int) (s % 2);
            s = (s * 1103 + 12345) % 1000003;
            if (!dead[p] && rights[p][h] > used[p][h]) {
                used[p][h]++;
                opened++;
            }
            if (s % 8 == 0 && !dead[p]) {
                dead[p] = true;
                for (int k = 0; k < 2; k++) {
                    int n = 0;
                    for (int heir : heirs[p]) {
                        n += dead[heir] ? 0 : 1;
                    }
                    int served = 0;
                    for (int heir : heirs[p]) {
                        if (!dead[heir]) {
                            rights[heir][k] += rights[p][k] / n + (served < rights[p][k] % n ? 1 : 0);
                            served++;
                        }
                    }
                    rights[p][k] = 0;
                    used[p][k] = 0;
                }
            } else if (s % 8 == 1) {
                used = new int[3][2];
            }
        }
        is("37", x.generations(0, 40), opened);
        for (int p = 0; p < 3; p++) {
            for (int h = 0; h < 2; h++) {
                is("38 " + p + " " + h, x.drawn(p, h), rights[p][h]);
            }
        }
        is("38", x.drawn(3, 0), -1);
        is("38", x.drawn(-1, 0), -1);
        is("38", x.drawn(0, 2), -1);
        is("38", x.drawn(0, -1), -1);
        is("37 on paper", x.has(0, 0, 0), 3);
        is("37 on paper", x.has(0, 0, 1), 0);
        is("37 on paper", x.count(2), 3);
        is("37 on paper", x.count(13), 0);
        is("37 on paper", x.count(5), 0);
        x.generations(-1, 1);
        is("38 refused ones are not kept", x.drawn(0, 0), rights[0][0]);
        x.terms(0, 999);
        is("37 at 999 it ends", x.generations(1000000, 60), 0);
        is("38", x.drawn(0, 0), 3);
    }
}
