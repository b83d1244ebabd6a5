import java.util.Map;
import java.util.TreeMap;
import java.util.function.ToLongFunction;

/**
 * Each call changes what the document says and nothing else: all that can be read of a rich suburb is read
 * ahead of it and behind it (of two objects that had the same calls, so that none has more than 512).
 */
public final class FrameTest {
    private static final Due due = new Due("FrameTest");
    private static final Map<String, Long> AHEAD = read(rich());

    public static void main(String[] args) {
        richIsRich();
        setUp();
        tape();
        texts();
        deeds();
        clues();
        imagesAndGenerations();
        refused();
        readers();
        due.end();
    }

    private static BellHeirs rich() {
        BellHeirs x = new BellHeirs();
        x.house(0, 5);
        x.house(7, 9);
        x.house(24, 30);
        x.person(0, 40, 50);
        x.person(1, 30, 20);
        x.person(6, 20, 7);
        x.person(12, 70, 997);
        x.want(0, 1);
        x.want(1, 0);
        x.will(0, 14);
        x.will(1, 8);
        x.right(0, 0, 5);
        x.right(0, 1, 3);
        x.right(1, 0, 2);
        x.right(1, 1, 4);
        x.right(2, 2, 1);
        x.right(3, 0, 7);
        x.right(3, 1, 1);
        x.terms(0, 12);
        x.terms(1, 4);
        x.terms(2, 6);
        Due.law(x, "bars if 1 = 0");
        Due.law(x, "opens if weary < 50");
        x.force(1);
        x.clue(1, 8);
        x.image(0);
        Due.put(x, "zzzzzz");
        x.row();
        x.generations(5, 10);
        x.die(2);
        x.ring(0, 0);
        x.ring(0, 0);
        x.ring(1, 1);
        x.sell(0, 1, 1);
        Due.orders(x, "pass; ring 2 at 2");
        Due.law(x, "opens or");
        x.house(25, 0);
        x.force(9);
        x.clue(0, 9);
        x.sell(2, 0, 0);
        Due.put(x, "pass");
        return x;
    }

    private static Map<String, Long> read(BellHeirs x) {
        Map<String, Long> all = new TreeMap<>();
        for (int what = 0; what < 16; what++) {
            all.put("count " + what, (long) x.count(what));
        }
        for (int house = 0; house < 6; house++) {
            for (int what = 0; what < 4; what++) {
                all.put("at " + house + " " + what, (long) x.at(house, what));
            }
        }
        for (int person = 0; person < 8; person++) {
            for (int what = 0; what < 6; what++) {
                all.put("of " + person + " " + what, (long) x.of(person, what));
            }
            for (int house = 0; house < 6; house++) {
                for (int what = 0; what < 3; what++) {
                    all.put("has " + person + " " + house + " " + what, (long) x.has(person, house, what));
                }
                all.put("drawn " + person + " " + house, (long) x.drawn(person, house));
            }
        }
        all.put("who", (long) x.who());
        all.put("fault", (long) x.fault());
        all.put("stopped", (long) x.stopped());
        all.put("rust", (long) x.rust());
        all.put("status", (long) x.status());
        return all;
    }

    /** The changes are written as "has 0 0 0 = 9, status = 0". */
    private static void changes(String call, ToLongFunction<BellHeirs> one, long answer, String... changed) {
        Map<String, Long> want = new TreeMap<>(AHEAD);
        for (String row : changed) {
            for (String change : row.split(", ")) {
                String[] sides = change.split(" = ");
                due.is(call + " reads " + sides[0], want.containsKey(sides[0]) ? 1 : 0, 1);
                want.put(sides[0], Long.parseLong(sides[1]));
            }
        }
        BellHeirs x = rich();
        due.is(call, one.applyAsLong(x), answer);
        Map<String, Long> got = read(x);
        for (Map.Entry<String, Long> entry : want.entrySet()) {
            due.is(call + " and then " + entry.getKey(), got.get(entry.getKey()), entry.getValue());
        }
    }

    private static void ahead(String what, long want) {
        due.is("rich: " + what, AHEAD.get(what), want);
    }

    /** What the calls below rest on, reckoned by hand. */
    private static void richIsRich() {
        ahead("count 0", 3);
        ahead("count 1", 4);
        ahead("count 2", 3);
        ahead("count 3", 2);
        ahead("count 4", 2);
        ahead("count 5", 5);
        ahead("count 6", 4);
        ahead("count 7", 1);
        ahead("count 8", 1);
        ahead("count 9", 2);
        ahead("count 10", 0);
        ahead("count 11", 1);
        ahead("count 12", 1);
        ahead("count 13", 12);
        ahead("count 14", 4);
        ahead("count 15", 6);
        ahead("has 0 0 0", 5);
        ahead("has 0 0 1", 2);
        ahead("has 0 0 2", 3);
        ahead("has 0 1 0", 2);
        ahead("has 1 0 0", 2);
        ahead("has 1 1 0", 5);
        ahead("has 1 1 1", 1);
        ahead("has 2 2 0", 0);
        ahead("has 3 0 0", 7);
        ahead("has 3 1 0", 1);
        ahead("of 0 2", 55);
        ahead("of 1 2", 15);
        ahead("of 2 2", 7);
        ahead("of 2 5", 0);
        ahead("of 3 2", 997);
        ahead("at 0 2", 2);
        ahead("at 0 3", 14);
        ahead("at 1 2", 1);
        ahead("at 1 3", 8);
        ahead("at 2 2", 0);
        ahead("at 2 3", 0);
        ahead("who", 11);
        ahead("fault", 6);
        ahead("stopped", 1);
        ahead("rust", 2);
        ahead("status", -3);
    }

    private static void setUp() {
        changes("house", x -> x.house(3, 7), 3, "count 0 = 4, count 5 = 0, status = 0",
            "at 3 0 = 3, at 3 1 = 7, at 3 2 = 0, at 3 3 = 0", "has 0 3 0 = 0, has 0 3 1 = 0, has 0 3 2 = 0",
            "has 1 3 0 = 0, has 1 3 1 = 0, has 1 3 2 = 0", "has 2 3 0 = 0, has 2 3 1 = 0, has 2 3 2 = 0",
            "has 3 3 0 = 0, has 3 3 1 = 0, has 3 3 2 = 0");
        changes("person", x -> x.person(3, 8, 9), 4, newPerson(3, 8, 9), "count 5 = 0");
        changes("want", x -> x.want(1, 2), 0, "of 1 3 = 2, status = 0");
        changes("want of one who is DEAD", x -> x.want(2, 0), 0, "of 2 3 = 0, status = 0");
        changes("want NONE", x -> x.want(0, -1), 0, "of 0 3 = -1, status = 0");
        changes("will", x -> x.will(0, 2), 14, "of 0 4 = 2, status = 0");
        changes("right", x -> x.right(0, 0, 99), 5,
            "has 0 0 0 = 99, has 0 0 2 = 97, at 0 3 = 108, count 5 = 0, status = 0");
        changes("right as many as USED", x -> x.right(0, 0, 2), 5,
            "has 0 0 0 = 2, has 0 0 2 = 0, at 0 3 = 11, count 5 = 0, who = 10, status = 0");
        changes("terms 0", x -> x.terms(0, 999), 12, "count 13 = 999, count 5 = 0, status = 0");
        changes("terms 1", x -> x.terms(1, 10), 4, "count 14 = 10, count 5 = 0, status = 0");
        changes("terms 2", x -> x.terms(2, 9), 6, "count 15 = 9, count 5 = 0, status = 0");
        changes("terms as they are", x -> x.terms(2, 6), 6, "count 5 = 0, status = 0");
    }

    private static String newPerson(int home, int age, int purse) {
        StringBuilder changed = new StringBuilder("count 1 = 5, count 2 = 4, status = 0, of 4 3 = -1, of 4 4 = 0, of 4 5 = 1");
        changed.append(", of 4 0 = ").append(home).append(", of 4 1 = ").append(age).append(", of 4 2 = ").append(purse);
        for (int house = 0; house < 3; house++) {
            for (int what = 0; what < 3; what++) {
                changed.append(", has 4 ").append(house).append(" ").append(what).append(" = 0");
            }
        }
        return changed.toString();
    }

    private static void tape() {
        changes("feed", x -> x.feed(0, 0, 0, 0, 0), 24, "count 6 = 24");
        changes("end", x -> x.end(1), 1, "count 6 = 1");
        changes("end of too much", x -> x.end(5), -1);
        changes("row of RUST", BellHeirs::row, 0, "count 6 = 0, count 5 = 0, rust = 1, status = 0");
        changes("row", x -> {
            x.end(0);
            x.feed(0x03080009, 0, 0, 0, 0);
            x.end(4);
            return x.row();
        }, 1, newPerson(3, 8, 9), "count 6 = 0, count 5 = 0, rust = 0");
    }

    private static void texts() {
        changes("law that is none", BellHeirs::law, -6, "fault = 0, count 6 = 0, count 11 = 2, status = -6");
        changes("law", x -> {
            x.end(0);
            return Due.law(x, "bars");
        }, 2, "fault = -1, count 6 = 0, count 4 = 3, status = 0");
        changes("orders to pass", BellHeirs::orders, 1, aYear(), "fault = -1, stopped = -1, count 6 = 0");
        changes("orders that are none", x -> {
            x.end(3);
            return x.orders();
        }, -6, "fault = 0, stopped = -1, count 6 = 0, count 11 = 2, status = -6");
        changes("orders that can't be", x -> {
            Due.put(x, "; ring 0 at 0; die 0; die 9");
            return x.orders();
        }, -3, "fault = -1, stopped = 3, count 6 = 0, count 9 = 3, status = -3");
        changes("orders not run", x -> {
            Due.put(x, " if 1 = 0");
            return x.orders();
        }, 0, "fault = -1, stopped = -1, count 6 = 0, status = 0");
        changes("force", x -> x.force(0), 1, "count 12 = 0, status = 0");
        changes("force NONE", x -> x.force(-1), 1, "count 12 = -1, status = 0");
    }

    private static String aYear() {
        return "has 0 0 1 = 0, has 0 0 2 = 5, has 1 1 1 = 0, has 1 1 2 = 5, at 0 2 = 0, at 1 2 = 0, count 13 = 13, count 5 = 6, "
            + "status = 0";
    }

    private static void deeds() {
        changes("ring", x -> x.ring(3, 1), 1,
            "has 3 1 1 = 1, has 3 1 2 = 0, at 1 2 = 2, count 5 = 6, who = 3, status = 0");
        // PERSON 3 has 997: of 5 that it gets, 3 are lost.
        changes("sell", x -> x.sell(3, 0, 0), 5,
            "has 3 0 0 = 6, has 3 0 2 = 6, has 0 0 0 = 6, has 0 0 2 = 4, of 0 2 = 50, of 3 2 = 999, count 5 = 6, status = 0");
        // HEIRS are 1, 2, 3, and 2 is DEAD: 5 are 3 and 2, 2 are 1 and 1.
        changes("die", x -> x.die(0), 2, "of 0 5 = 0, count 2 = 2, count 5 = 6, who = 10, status = 0",
            "has 0 0 0 = 0, has 0 0 1 = 0, has 0 0 2 = 0, has 0 1 0 = 0, has 0 1 2 = 0",
            "has 1 0 0 = 5, has 1 0 2 = 5, has 3 0 0 = 9, has 3 0 2 = 9",
            "has 1 1 0 = 6, has 1 1 2 = 5, has 3 1 0 = 2, has 3 1 2 = 2");
        changes("die without HEIRS", x -> x.die(3), 0, "of 3 5 = 0, count 2 = 2, count 5 = 6, who = 3, status = 0",
            "has 3 0 0 = 0, has 3 0 2 = 0, has 3 1 0 = 0, has 3 1 2 = 0, at 0 3 = 7, at 1 3 = 7");
        changes("pass", BellHeirs::pass, 13, aYear());
        String sale = "has 0 1 0 = 3, has 0 1 2 = 3, has 1 1 0 = 4, has 1 1 2 = 3, of 0 2 = 50, of 1 2 = 20, status = 0";
        changes("undo a sale", BellHeirs::undo, 1, sale, "count 5 = 4");
        String ring = "has 1 1 1 = 0, has 1 1 2 = 4, at 1 2 = 0";
        changes("undo a ring", x -> {
            x.undo();
            return x.undo();
        }, 0, sale, ring, "count 5 = 3");
        changes("undo all", x -> {
            for (int i = 0; i < 4; i++) {
                x.undo();
            }
            return x.undo();
        }, 2, sale, ring, "has 0 0 1 = 0, has 0 0 2 = 5, at 0 2 = 0, of 2 5 = 1, count 2 = 4",
            "has 2 2 0 = 1, has 2 2 2 = 1, at 2 3 = 1, count 5 = 0");
    }

    private static void clues() {
        changes("clue", x -> x.clue(0, 3), 3, "count 3 = 3, status = 0");
        // The latest CLUE was at HOUSE 0; from there to HOUSE 1 at PLACE 7 are 3 STEPS.
        changes("clue too near", x -> x.clue(1, 2), 3, "count 3 = 3, who = 0, status = 0");
        changes("forget", BellHeirs::forget, 2, "count 3 = 0");
    }

    private static void imagesAndGenerations() {
        changes("image", x -> x.image(1), 0, "status = 0");
        changes("image over another", x -> x.image(0), 0, "status = 0");
        // At YEAR 12 IMAGE 0 was kept ahead of the deeds, behind the first CLUE.
        changes("back", x -> x.back(0), 0, "status = 0, count 2 = 4, count 3 = 1, count 5 = 0, of 2 5 = 1",
            "has 0 0 1 = 0, has 0 0 2 = 5, has 0 1 0 = 3, has 0 1 2 = 3, has 1 1 0 = 4, has 1 1 1 = 0, has 1 1 2 = 4",
            "has 2 2 0 = 1, has 2 2 2 = 1, at 0 2 = 0, at 1 2 = 0, at 2 3 = 1, of 0 2 = 50, of 1 2 = 20");
        changes("image and back", x -> {
            x.image(1);
            return x.back(1);
        }, 0, "status = 0, count 5 = 0");
        // DRAWS from 9: 22272, 578289, 863201: PERSON 0 RINGS at HOUSE 0, a YEAR passes.
        changes("generations with a YEAR", x -> x.generations(9, 1), 1, "status = 0",
            "drawn 0 0 = 5, drawn 0 1 = 2, drawn 0 2 = 0, drawn 1 0 = 2, drawn 1 1 = 5, drawn 1 2 = 0",
            "drawn 2 0 = 0, drawn 2 1 = 0, drawn 2 2 = 0, drawn 3 0 = 7, drawn 3 1 = 1, drawn 3 2 = 0");
        // DRAWS from 21: 35508, 177552, 851616: PERSON 0 RINGS at HOUSE 0 and DIES.
        changes("generations with a death", x -> x.generations(21, 1), 1, "status = 0",
            "drawn 0 0 = 0, drawn 0 1 = 0, drawn 0 2 = 0, drawn 1 0 = 5, drawn 1 1 = 6, drawn 1 2 = 0",
            "drawn 2 0 = 0, drawn 2 1 = 0, drawn 2 2 = 0, drawn 3 0 = 9, drawn 3 1 = 2, drawn 3 2 = 0");
    }

    private static void refused() {
        String one = "count 7 = 2, status = -1";
        String two = "count 8 = 2, status = -2";
        String three = "count 9 = 3, status = -3";
        changes("house -1", x -> x.house(0, 100), -1, one);
        changes("person -1", x -> x.person(0, 0, 1000), -1, one);
        changes("want -1", x -> x.want(0, 3), -1, one);
        changes("want -2", x -> x.want(4, 0), -2, two);
        changes("will -1", x -> x.will(0, 16), -1, one);
        changes("will -2", x -> x.will(4, 1), -2, two);
        changes("right -1", x -> x.right(0, 0, 100), -1, one);
        changes("right -2", x -> x.right(0, 3, 1), -2, two);
        changes("right -3, fewer than USED", x -> x.right(0, 0, 1), -3, three);
        changes("right -3, DEAD", x -> x.right(2, 0, 1), -3, three);
        changes("terms -1", x -> x.terms(3, 0), -1, one);
        changes("row -6", x -> {
            x.end(0);
            return x.row();
        }, -6, "count 6 = 0, count 11 = 2, status = -6");
        changes("force -2", x -> x.force(2), -2, two);
        changes("ring -2", x -> x.ring(4, 0), -2, two);
        changes("ring -3", x -> x.ring(0, 2), -3, three);
        changes("ring -3, DEAD", x -> x.ring(2, 0), -3, three);
        changes("sell -1", x -> x.sell(0, 0, 0), -1, one);
        changes("sell -2", x -> x.sell(0, 4, 0), -2, two);
        changes("sell -3", x -> x.sell(0, 2, 0), -3, three);
        changes("die -2", x -> x.die(4), -2, two);
        changes("die -3", x -> x.die(2), -3, three);
        changes("clue -1", x -> x.clue(0, 100), -1, one);
        changes("clue -2", x -> x.clue(3, 0), -2, two);
        changes("generations -1", x -> x.generations(0, 0), -1, one);
        changes("image -1", x -> x.image(2), -1, one);
        changes("back -1", x -> x.back(2), -1, one);
        changes("back -2", x -> x.back(1), -2, two);
    }

    private static void readers() {
        changes("asks", x -> x.asks(0, 1, 0, 2), 1);
        changes("has, opens", x -> x.has(0, 0, 3), 1);
        changes("has, tires", x -> x.has(0, 0, 4), 1);
        changes("at, worth", x -> x.at(0, 4), 10);
        changes("visits", x -> x.visits(0, 99, -1), 2);
        changes("exchange", x -> x.exchange(0), 2);
        changes("look", x -> x.look(1), 3);
        changes("amend", x -> x.amend(0, 1), 9);
        changes("given", x -> x.given(0, 7, 3), 4);
        changes("keep", x -> x.keep(0, 20, 8, -1), 184);
        changes("chain", x -> x.chain(3, 1, 0, -1), 5);
        changes("likely", x -> x.likely(1, 1), 600000000000L);
    }
}
