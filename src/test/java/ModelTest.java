import java.nio.charset.StandardCharsets;
import java.util.Random;

/** Random runs of at most 512 calls on a BellHeirs and on the Model: both must answer alike. */
public final class ModelTest {
    private static final Due due = new Due("ModelTest");
    private final Random random;
    private final BellHeirs x = new BellHeirs();
    private final Model m = new Model();
    private final int run;
    private final boolean wild;
    private final boolean full;
    private int parts;

    private ModelTest(int run) {
        this.run = run;
        random = new Random(run);
        wild = run % 5 == 0;
        full = run % 10 == 4;
    }

    public static void main(String[] args) {
        int runs = args.length > 0 ? Integer.parseInt(args[0]) : 300;
        for (int run = 0; run < runs; run++) {
            new ModelTest(run).go();
        }
        due.end();
    }

    private void is(String call, long got, long want) {
        due.is("run " + run + " " + call, got, want);
    }

    private int below(int n) {
        return random.nextInt(n);
    }

    private int house() {
        return below(12) == 0 ? below(9) - 2 : below(Math.max(1, x.count(0)));
    }

    private int person() {
        return below(12) == 0 ? below(11) - 2 : below(Math.max(1, x.count(1)));
    }

    private int upTo(int most) {
        int dice = below(wild ? 8 : 25);
        return dice == 0 ? most + 1 : dice == 1 ? -1 : dice == 2 ? most : dice == 3 ? 0 : below(most + 1);
    }

    private void go() {
        int calls = 0;
        if (full) {
            fillSuburb();
        } else if (!wild) {
            for (int i = 0; i < 3; i++) {
                oneHouse();
                onePerson();
            }
        }
        while (calls < 60) {
            calls++;
            oneCall();
            if (below(4) == 0) {
                readAll();
            }
        }
        readAll();
    }

    /** All houses and people there can be, with wants, heirs and a few rights each. */
    private void fillSuburb() {
        for (int i = 0; i < 20; i++) {
            oneHouse();
            onePerson();
        }
        for (int p = 0; p < x.count(1); p++) {
            int wanted = below(7) - 1;
            int heirs = below(256);
            is("want", x.want(p, wanted), m.want(p, wanted));
            is("will", x.will(p, heirs & ~(1 << p)), m.will(p, heirs & ~(1 << p)));
            for (int h = 0; h < x.count(0); h++) {
                int rings = below(3) == 0 ? 0 : below(8);
                is("right", x.right(p, h, rings), m.right(p, h, rings));
            }
        }
    }

    private void oneHouse() {
        int a = upTo(24);
        int b = upTo(99);
        is("house", x.house(a, b), m.house(a, b));
    }

    private void onePerson() {
        int a = upTo(24);
        int b = upTo(99);
        int c = upTo(below(2) == 0 ? 999 : 60);
        is("person", x.person(a, b, c), m.person(a, b, c));
    }

    private void oneCall() {
        int p = person();
        int q = person();
        int h = house();
        switch (below(32)) {
            case 0: oneHouse(); break;
            case 1: onePerson(); break;
            case 2: is("want", x.want(p, h), m.want(p, h)); break;
            case 3: {
                int heirs = below(wild ? 512 : 1 << x.count(1)) & ~(wild || p < 0 ? 0 : 1 << p);
                is("will", x.will(p, heirs), m.will(p, heirs));
                break;
            }
            case 4: case 5: case 6: case 7: case 8: case 9: {
                int rings = upTo(below(3) == 0 ? 99 : 6);
                is("right", x.right(p, h, rings), m.right(p, h, rings));
                break;
            }
            case 10: {
                int what = below(wild ? 5 : 3) - (wild ? 1 : 0);
                int value = upTo(what == 0 ? 999 : 10);
                is("terms", x.terms(what, value), m.terms(what, value));
                break;
            }
            case 11: oneRow(); break;
            case 12: case 13: case 14: {
                feed(text(true));
                is("law", x.law(), m.law());
                is("fault", x.fault(), m.fault);
                int law = below(x.count(4) + 1) - (below(6) == 0 ? 1 : 0);
                is("force", x.force(law), m.force(law));
                break;
            }
            case 15: case 16: case 17: case 18: {
                String text = text(false);
                feed(text);
                is("orders " + text, x.orders(), m.orders());
                is("fault " + text, x.fault(), m.fault);
                is("stopped", x.stopped(), m.stopped);
                break;
            }
            case 19: case 20: case 21: is("ring", x.ring(p, h), m.ring(p, h)); break;
            case 22: case 23: is("sell", x.sell(p, q, h), m.sell(p, q, h)); break;
            case 24: if (below(3) == 0) { is("die", x.die(p), m.die(p)); } break;
            case 25: is("pass", x.pass(), m.pass()); break;
            case 26: is("undo", x.undo(), m.undo()); break;
            case 27: {
                int steps = upTo(below(2) == 0 ? 99 : 8);
                is("clue", x.clue(h, steps), m.clue(h, steps));
                break;
            }
            case 28: if (below(3) == 0) { is("forget", x.forget(), m.forget()); } break;
            case 29: {
                int seed = upTo(1000000);
                int n = upTo(60);
                is("generations", x.generations(seed, n), m.generations(seed, n));
                break;
            }
            case 30: {
                int k = below(10) == 0 ? below(4) - 1 : below(2);
                is("image", x.image(k), m.image(k));
                break;
            }
            default: {
                int k = below(10) == 0 ? below(4) - 1 : below(2);
                is("back", x.back(k), m.back(k));
                break;
            }
        }
        is("status", x.status(), m.status);
    }

    private void oneRow() {
        if (below(4) != 0) {
            return;
        }
        byte[] bytes = new byte[below(14)];
        for (int i = 0; i < bytes.length; i++) {
            bytes[i] = (byte) (below(10) == 0 ? below(256) : below(i % 4 == 0 ? 25 : i % 4 == 3 ? 10 : 100));
        }
        feed(new String(bytes, StandardCharsets.ISO_8859_1));
        is("row", x.row(), m.row());
        is("rust", x.rust(), m.rust);
    }

    private void feed(String text) {
        byte[] b = text.getBytes(StandardCharsets.ISO_8859_1);
        int length = Math.min(400, b.length);
        for (int from = 0; from < b.length; from += 20) {
            int[] v = new int[5];
            for (int i = 0; i < 20; i++) {
                v[i / 4] = v[i / 4] << 8 | (from + i < b.length ? b[from + i] & 255 : 0);
            }
            is("feed", x.feed(v[0], v[1], v[2], v[3], v[4]), m.feed(v[0], v[1], v[2], v[3], v[4]));
        }
        is("end", x.end(length), m.end(length));
    }

    private String gap() {
        return below(6) == 0 ? "  " : " ";
    }

    private String text(boolean law) {
        parts = 0;
        StringBuilder t = new StringBuilder();
        int clauses = below(15) == 0 ? 9 + below(6) : 1 + below(5);
        for (int i = 0; i < clauses; i++) {
            t.append(i > 0 ? ";" : "").append(law ? lawClause() : orderClause());
        }
        if (below(4) == 0 && t.length() > 0) {
            int at = below(t.length());
            switch (below(4)) {
                case 0: t.deleteCharAt(at); break;
                case 1: t.setCharAt(at, (char) below(256)); break;
                case 2: t.insert(at, "([])+-*/%<>=; 19az".charAt(below(18))); break;
                default: t.setLength(at); break;
            }
        }
        return t.toString();
    }

    private String lawClause() {
        String[] kinds = {"tires ", "costs ", "worth ", "opens", "bars"};
        int kind = below(5);
        return kinds[kind] + (kind < 3 ? sum(true, 2) : "") + condition(true);
    }

    private String orderClause() {
        String body;
        switch (below(6)) {
            case 0: case 1: case 2: body = "ring " + index(8) + " at " + index(6); break;
            case 3: body = "sell " + index(8) + " to " + index(8) + " of " + index(6); break;
            case 4: body = below(3) == 0 ? "die " + index(8) : "pass"; break;
            default: body = "pass"; break;
        }
        return body + (below(3) == 0 ? " times " + below(8) : "") + condition(false);
    }

    private String index(int most) {
        return below(6) == 0 ? sum(false, 2) : "" + below(most == 8 ? Math.max(1, x.count(1)) : Math.max(1, x.count(0)));
    }

    private String condition(boolean law) {
        return below(2) == 0 ? "" : gap() + "if " + test(law, 3);
    }

    private String test(boolean law, int depth) {
        int dice = below(9);
        if (depth > 0 && dice == 0) {
            return test(law, depth - 1) + " and " + test(law, depth - 1);
        }
        if (depth > 0 && dice == 1) {
            return test(law, depth - 1) + " or " + test(law, depth - 1);
        }
        if (depth > 0 && dice == 2) {
            return "not " + test(law, depth - 1);
        }
        if (depth > 0 && dice == 3) {
            return "(" + test(law, depth - 1) + ")";
        }
        return sum(law, 1) + gap() + "<>=".charAt(below(3)) + gap() + sum(law, 1);
    }

    private String sum(boolean law, int depth) {
        int dice = below(8);
        if (depth > 0 && dice < 3) {
            return sum(law, depth - 1) + "+-*/%".charAt(below(5)) + sum(law, depth - 1);
        }
        if (depth > 0 && dice == 3) {
            return "[" + sum(law, depth - 1) + "]";
        }
        parts++;
        if (below(2) == 0) {
            return "" + (below(10) == 0 ? below(1003) : below(30));
        }
        String[] lawWords = {"person", "age", "purse", "house", "weary", "left", "year", "to", "mood"};
        String[] orderWords = {"year", "done", "latest", "living", "purse " + below(9), "left " + below(8),
            "weary " + below(7)};
        return law ? lawWords[below(9)] : orderWords[below(7)];
    }

    private void readAll() {
        for (int what = -1; what <= 16; what++) {
            is("count " + what, x.count(what), m.count(what));
        }
        for (int h = -1; h <= x.count(0); h++) {
            for (int what = -1; what <= 5; what++) {
                is("at", x.at(h, what), m.at(h, what));
            }
            for (int what = -1; what <= 2; what++) {
                is("amend", x.amend(h, what), m.amend(h, what));
            }
            int n = upTo(99);
            for (int p = -1; p <= x.count(1); p++) {
                is("given", x.given(h, n, p), m.given(h, n, p));
                is("drawn", x.drawn(p, h), m.drawn(p, h));
                for (int what = -1; what <= 5; what++) {
                    is("has", x.has(p, h, what), m.has(p, h, what));
                }
            }
        }
        readPeople();
        readPaper();
    }

    private void readPeople() {
        for (int p = -1; p <= x.count(1); p++) {
            for (int what = -1; what <= 6; what++) {
                is("of", x.of(p, what), m.of(p, what));
            }
        }
        for (int i = 0; i < 12; i++) {
            int from = person();
            int to = person();
            int h = house();
            for (int what = -1; what <= 3; what++) {
                is("asks", x.asks(from, to, h, what), m.asks(from, to, h, what));
            }
        }
    }

    private void readPaper() {
        is("who", x.who(), m.who());
        for (int what = -1; what <= 2; what++) {
            is("look", x.look(what), m.look(what));
        }
        int k = upTo(20);
        int n = upTo(60);
        is("likely", x.likely(k, n), m.likely(k, n));
        if (below(4) == 0) {
            for (int what = -1; what <= x.count(1) + 1; what++) {
                is("exchange", x.exchange(what), m.exchange(what));
            }
        }
        if (below(8) == 0) {
            int p = person();
            int steps = upTo(below(2) == 0 ? 99 : 12);
            for (int i = -2; i <= 6; i++) {
                is("visits", x.visits(p, steps, i), m.visits(p, steps, i));
            }
        }
        int from = person();
        int to = person();
        int h = house();
        for (int i = -2; i <= 8; i++) {
            is("chain", x.chain(from, to, h, i), m.chain(from, to, h, i));
        }
        int years = below(10);
        int rings = years > 4 ? upTo(5) : upTo(9);
        for (int i = -2; i <= years && below(2) == 0; i++) {
            is("keep", x.keep(h, rings, years, i), m.keep(h, rings, years, i));
        }
    }
}
