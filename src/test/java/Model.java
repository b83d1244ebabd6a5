import java.util.ArrayList;
import java.util.Arrays;
import java.util.List;

/**
 * The document written down a second time, as plainly and as slowly as can be: trees for texts, copies of
 * all that stands for undo and images, all rows tried for what is done on paper.
 */
final class Model {
    static final class State {
        List<int[]> houses = new ArrayList<>();   // place, bears, weary
        List<int[]> people = new ArrayList<>();   // home, age, purse, want, heirs, lives
        int[][] rights = new int[8][6];
        int[][] used = new int[8][6];
        List<int[]> clues = new ArrayList<>();
        List<List<Clause>> laws = new ArrayList<>();
        int force = -1;
        int[] terms = {0, 3, 0};

        State copy() {
            State s = new State();
            for (int[] h : houses) {
                s.houses.add(h.clone());
            }
            for (int[] p : people) {
                s.people.add(p.clone());
            }
            for (int p = 0; p < 8; p++) {
                s.rights[p] = rights[p].clone();
                s.used[p] = used[p].clone();
            }
            s.clues.addAll(clues);
            s.laws.addAll(laws);
            s.force = force;
            s.terms = terms.clone();
            return s;
        }

        int left(int p, int h) {
            return rights[p][h] - used[p][h];
        }

        boolean isHouse(int h) {
            return h >= 0 && h < houses.size();
        }

        boolean isPerson(int p) {
            return p >= 0 && p < people.size();
        }

        boolean lives(int p) {
            return people.get(p)[5] == 1;
        }
    }

    /** A node of a text: a number, a word with whose it is, an operation, or a test. */
    record Node(String op, int value, Node a, Node b) { }

    static final class Clause {
        String kind;
        List<Node> sums = new ArrayList<>();
        int times = 1;
        Node test;
    }

    @SuppressWarnings("serial")
    static final class Fault extends Exception {
        final int place;

        Fault(int place) {
            this.place = place;
        }
    }

    @SuppressWarnings("serial")
    static final class Broken extends Exception { }

    interface Words {
        int get(String word, int whose);
    }

    static final class Parser {
        final List<String> tokens = new ArrayList<>();
        final List<Integer> places = new ArrayList<>();
        final boolean law;
        int at = 0;
        int parts = 0;
        int open = 0;

        Parser(String text, boolean law) {
            this.law = law;
            int i = 0;
            while (i < text.length()) {
                char c = text.charAt(i);
                if (c == ' ') {
                    i++;
                    continue;
                }
                int j = i + 1;
                String same = c >= 'a' && c <= 'z' ? "[a-z]" : c >= '0' && c <= '9' ? "[0-9]" : null;
                while (same != null && j < text.length() && text.substring(j, j + 1).matches(same)) {
                    j++;
                }
                tokens.add(text.substring(i, j));
                places.add(i);
                i = j;
            }
            tokens.add("");
            places.add(text.length());
        }

        String now() {
            return tokens.get(at);
        }

        Fault fault() {
            return new Fault(places.get(at));
        }

        boolean may(String token) {
            if (now().equals(token)) {
                at++;
                return true;
            }
            return false;
        }

        void must(String token) throws Fault {
            if (!may(token)) {
                throw fault();
            }
        }

        List<Clause> text() throws Fault {
            List<Clause> clauses = new ArrayList<>();
            do {
                if (clauses.size() == 12) {
                    throw fault();
                }
                clauses.add(clause());
            } while (may(";"));
            if (!now().isEmpty()) {
                throw fault();
            }
            return clauses;
        }

        Clause clause() throws Fault {
            Clause c = new Clause();
            c.kind = now();
            List<String> kinds = law ? List.of("tires", "costs", "worth", "opens", "bars")
                : List.of("ring", "sell", "die", "pass");
            if (!kinds.contains(c.kind)) {
                throw fault();
            }
            at++;
            if (List.of("tires", "costs", "worth", "ring", "sell", "die").contains(c.kind)) {
                c.sums.add(sum());
            }
            if (c.kind.equals("ring")) {
                must("at");
                c.sums.add(sum());
            }
            if (c.kind.equals("sell")) {
                must("to");
                c.sums.add(sum());
                must("of");
                c.sums.add(sum());
            }
            if (!law && may("times")) {
                c.times = number(1, 20);
            }
            if (may("if")) {
                c.test = test();
            }
            return c;
        }

        int number(int least, int most) throws Fault {
            if (!now().matches("[0-9]+")) {
                throw fault();
            }
            java.math.BigInteger v = new java.math.BigInteger(now());
            if (v.compareTo(java.math.BigInteger.valueOf(least)) < 0
                || v.compareTo(java.math.BigInteger.valueOf(most)) > 0) {
                throw fault();
            }
            at++;
            return v.intValue();
        }

        Node test() throws Fault {
            Node n = both();
            while (may("or")) {
                n = new Node("or", 0, n, both());
            }
            return n;
        }

        Node both() throws Fault {
            Node n = plain();
            while (may("and")) {
                n = new Node("and", 0, n, plain());
            }
            return n;
        }

        void openBracket() throws Fault {
            if (open == 8) {
                throw fault();
            }
            open++;
            at++;
        }

        Node plain() throws Fault {
            if (may("not")) {
                return new Node("not", 0, plain(), null);
            }
            if (now().equals("(")) {
                openBracket();
                Node n = test();
                must(")");
                open--;
                return n;
            }
            Node a = sum();
            String op = now();
            if (!List.of("<", ">", "=").contains(op)) {
                throw fault();
            }
            at++;
            return new Node(op, 0, a, sum());
        }

        Node sum() throws Fault {
            Node n = term();
            while (List.of("+", "-").contains(now())) {
                String op = now();
                at++;
                n = new Node(op, 0, n, term());
            }
            return n;
        }

        Node term() throws Fault {
            Node n = part();
            while (List.of("*", "/", "%").contains(now())) {
                String op = now();
                at++;
                n = new Node(op, 0, n, part());
            }
            return n;
        }

        Node part() throws Fault {
            if (now().equals("[")) {
                openBracket();
                Node n = sum();
                must("]");
                open--;
                return n;
            }
            parts++;
            if (parts > 50) {
                throw fault();
            }
            if (now().matches("[0-9]+")) {
                return new Node("number", number(0, 1000), null, null);
            }
            String word = now();
            List<String> words = law ? List.of("person", "age", "purse", "house", "weary", "left", "year", "to", "mood")
                : List.of("year", "done", "latest", "living", "purse", "left", "weary");
            if (!words.contains(word)) {
                throw fault();
            }
            at++;
            int whose = -1;
            if (!law && List.of("purse", "left", "weary").contains(word)) {
                whose = number(0, word.equals("weary") ? 5 : 7);
            }
            return new Node("word " + word, whose, null, null);
        }
    }

    static long value(Node n, Words words) throws Broken {
        if (n.op.equals("number")) {
            return n.value;
        }
        if (n.op.startsWith("word ")) {
            return words.get(n.op.substring(5), n.value);
        }
        long a = value(n.a, words);
        if (n.op.equals("not")) {
            return 1 - a;
        }
        if (n.op.equals("or") && a == 1 || n.op.equals("and") && a == 0) {
            return a;
        }
        long b = value(n.b, words);
        long v;
        switch (n.op) {
            case "+": v = a + b; break;
            case "-": v = a - b; break;
            case "*": v = a * b; break;
            case "/":
            case "%":
                if (b == 0) {
                    throw new Broken();
                }
                v = n.op.equals("/") ? a / b : a - a / b * b;
                break;
            case "<": v = a < b ? 1 : 0; break;
            case ">": v = a > b ? 1 : 0; break;
            case "=": v = a == b ? 1 : 0; break;
            default: v = b; break;
        }
        if (Math.abs(v) > 1000000000L) {
            throw new Broken();
        }
        return v;
    }

    State s = new State();
    State[] images = new State[2];
    List<State> undo = new ArrayList<>();
    List<Integer> undoKinds = new ArrayList<>();
    StringBuilder tape = new StringBuilder();
    int fault = -1;
    int stopped = -1;
    int rust = 0;
    int status = 0;
    int[] refusals = new int[7];
    State latest = null;

    private int no(int code) {
        status = code;
        refusals[-code]++;
        return code;
    }

    private int yes(int answer) {
        status = 0;
        return answer;
    }

    private void forgetDeeds() {
        undo.clear();
        undoKinds.clear();
    }

    int house(int place, int bears) {
        if (place < 0 || place > 24 || bears < 0 || bears > 99) {
            return no(-1);
        }
        if (s.houses.size() == 6) {
            return no(-5);
        }
        forgetDeeds();
        s.houses.add(new int[] {place, bears, 0});
        return yes(s.houses.size() - 1);
    }

    int at(int h, int what) {
        if (!s.isHouse(h) || what < 0 || what > 4) {
            return -1;
        }
        if (what < 3) {
            return s.houses.get(h)[what];
        }
        if (what == 3) {
            int sum = 0;
            for (int p = 0; p < 8; p++) {
                sum += s.rights[p][h];
            }
            return sum;
        }
        return worth(s, h, s.terms[0]);
    }

    int person(int home, int age, int purse) {
        if (home < 0 || home > 24 || age < 0 || age > 99 || purse < 0 || purse > 999) {
            return no(-1);
        }
        if (s.people.size() == 8) {
            return no(-5);
        }
        forgetDeeds();
        s.people.add(new int[] {home, age, purse, -1, 0, 1});
        return yes(s.people.size() - 1);
    }

    int of(int p, int what) {
        return !s.isPerson(p) || what < 0 || what > 5 ? -1 : s.people.get(p)[what];
    }

    int want(int p, int h) {
        if (h != -1 && !s.isHouse(h)) {
            return no(-1);
        }
        if (!s.isPerson(p)) {
            return no(-2);
        }
        s.people.get(p)[3] = h;
        return yes(0);
    }

    int will(int p, int heirs) {
        for (int i = 0; i < 32; i++) {
            if ((heirs >>> i & 1) == 1 && (i == p || !s.isPerson(i))) {
                return no(-1);
            }
        }
        if (!s.isPerson(p)) {
            return no(-2);
        }
        int before = s.people.get(p)[4];
        s.people.get(p)[4] = heirs;
        return yes(before);
    }

    int right(int p, int h, int rings) {
        if (rings < 0 || rings > 99) {
            return no(-1);
        }
        if (!s.isPerson(p) || !s.isHouse(h)) {
            return no(-2);
        }
        if (rings < s.used[p][h] || !s.lives(p)) {
            return no(-3);
        }
        forgetDeeds();
        int before = s.rights[p][h];
        s.rights[p][h] = rings;
        return yes(before);
    }

    int has(int p, int h, int what) {
        if (!s.isPerson(p) || !s.isHouse(h)) {
            return -1;
        }
        switch (what) {
            case 0: return s.rights[p][h];
            case 1: return s.used[p][h];
            case 2: return s.left(p, h);
            case 3: return opens(s, p, h);
            case 4: return told(s, "tires", p, h, -1, s.terms[0], 1, 20);
            default: return -1;
        }
    }

    int asks(int from, int to, int h, int what) {
        if (!s.isPerson(from) || !s.isPerson(to) || from == to || !s.isHouse(h)) {
            return -1;
        }
        switch (what) {
            case 0: return costs(s, from, to, h);
            case 1: return bars(s, from, to, h);
            case 2: return s.left(from, h) >= 1 && buys(s, from, to, h) ? 1 : 0;
            default: return -1;
        }
    }

    int terms(int what, int value) {
        if (what < 0 || what > 2 || value < 0 || value > new int[] {999, 10, 9}[what]) {
            return no(-1);
        }
        forgetDeeds();
        int before = s.terms[what];
        s.terms[what] = value;
        return yes(before);
    }

    int feed(int a, int b, int c, int d, int e) {
        if (tape.length() + 20 > 400) {
            return -1;
        }
        for (int v : new int[] {a, b, c, d, e}) {
            tape.append((char) (v >>> 24)).append((char) (v >>> 16 & 255)).append((char) (v >>> 8 & 255))
                .append((char) (v & 255));
        }
        return tape.length();
    }

    int end(int n) {
        if (n < 0 || n > tape.length()) {
            return -1;
        }
        tape.setLength(n);
        return n;
    }

    int row() {
        if (tape.length() == 0) {
            return no(-6);
        }
        forgetDeeds();
        rust = 0;
        int came = 0;
        String rest = tape.toString();
        tape.setLength(0);
        while (!rest.isEmpty()) {
            boolean fine = rest.length() >= 4 && s.people.size() < 8 && rest.charAt(0) <= 24 && rest.charAt(1) <= 99
                && rest.charAt(3) <= 9 && rest.charAt(2) * 10 + rest.charAt(3) <= 999;
            if (fine) {
                s.people.add(new int[] {rest.charAt(0), rest.charAt(1), rest.charAt(2) * 10 + rest.charAt(3), -1, 0, 1});
                came++;
            } else {
                rust++;
            }
            rest = rest.substring(Math.min(4, rest.length()));
        }
        return yes(came);
    }

    private List<Clause> parse(boolean law) {
        String text = tape.toString();
        tape.setLength(0);
        try {
            fault = -1;
            return new Parser(text, law).text();
        } catch (Fault f) {
            fault = f.place;
            return null;
        }
    }

    int law() {
        if (s.laws.size() == 6) {
            tape.setLength(0);
            return no(-5);
        }
        List<Clause> text = parse(true);
        if (text == null) {
            return no(-6);
        }
        s.laws.add(text);
        return yes(s.laws.size() - 1);
    }

    int orders() {
        stopped = -1;
        List<Clause> text = parse(false);
        if (text == null) {
            return no(-6);
        }
        State before = s.copy();
        List<State> undoBefore = new ArrayList<>(undo);
        List<Integer> kindsBefore = new ArrayList<>(undoKinds);
        int[] counts = {0, -1};
        for (int i = 0; i < text.size(); i++) {
            Clause c = text.get(i);
            for (int t = 0; t < c.times; t++) {
                if (!orderOnce(c, counts)) {
                    s = before;
                    undo = undoBefore;
                    undoKinds = kindsBefore;
                    stopped = i;
                    return no(-3);
                }
            }
        }
        return yes(counts[0]);
    }

    private int orderWord(String word, int whose, int[] counts) {
        switch (word) {
            case "year": return s.terms[0];
            case "done": return counts[0];
            case "latest": return counts[1];
            case "living": return count(2);
            case "purse": return of(whose, 2);
            case "weary": return at(whose, 2);
            default:
                if (!s.isPerson(whose)) {
                    return -1;
                }
                int sum = 0;
                for (int h = 0; h < s.houses.size(); h++) {
                    sum += s.left(whose, h);
                }
                return sum;
        }
    }

    private boolean orderOnce(Clause c, int[] counts) {
        Words words = (w, whose) -> orderWord(w, whose, counts);
        try {
            if (c.test != null && value(c.test, words) == 0) {
                return true;
            }
        } catch (Broken b) {
            return true;
        }
        int[] v = new int[3];
        try {
            for (int i = 0; i < c.sums.size(); i++) {
                v[i] = (int) value(c.sums.get(i), words);
            }
        } catch (Broken b) {
            return false;
        }
        int told;
        switch (c.kind) {
            case "ring": told = doRing(v[0], v[1], true); break;
            case "sell": told = doSell(v[0], v[1], v[2]); break;
            case "die": told = doDie(v[0], true); break;
            default: told = doPass(true); break;
        }
        if (told < 0) {
            return false;
        }
        counts[0]++;
        if (c.kind.equals("ring")) {
            counts[1] = told;
        }
        return true;
    }

    int force(int law) {
        if (law < -1 || law >= s.laws.size()) {
            return no(-2);
        }
        int before = s.force;
        s.force = law;
        return yes(before);
    }

    private static int lawWord(State s, String word, int p, int h, int to, int year) {
        switch (word) {
            case "person": return p;
            case "age": return p < 0 ? -1 : s.people.get(p)[1];
            case "purse": return p < 0 ? -1 : s.people.get(p)[2];
            case "left": return p < 0 ? -1 : s.left(p, h);
            case "house": return h;
            case "weary": return s.houses.get(h)[2];
            case "year": return year;
            case "to": return to;
            default: return s.terms[2];
        }
    }

    /** The value of a CLAUSE that HOLDS (0 without a SUM), or null. */
    private static Long holds(State s, Clause c, int p, int h, int to, int year) {
        Words words = (w, whose) -> lawWord(s, w, p, h, to, year);
        try {
            if (c.test != null && value(c.test, words) == 0) {
                return null;
            }
            return c.sums.isEmpty() ? 0L : value(c.sums.get(0), words);
        } catch (Broken b) {
            return null;
        }
    }

    private static List<Clause> clauses(State s, String kind) {
        List<Clause> of = new ArrayList<>();
        if (s.force >= 0) {
            for (Clause c : s.laws.get(s.force)) {
                if (c.kind.equals(kind)) {
                    of.add(c);
                }
            }
        }
        return of;
    }

    private static int told(State s, String kind, int p, int h, int to, int year, int without, int most) {
        long told = without;
        for (Clause c : clauses(s, kind)) {
            Long v = holds(s, c, p, h, to, year);
            if (v != null) {
                told = v < 0 ? 0 : v > most ? most : v;
            }
        }
        return (int) told;
    }

    private static int costs(State s, int from, int to, int h) {
        return told(s, "costs", from, h, to, s.terms[0], 5, 999);
    }

    private static int worth(State s, int h, int year) {
        return told(s, "worth", -1, h, -1, year, 10, 99);
    }

    private static int opens(State s, int p, int h) {
        List<Clause> of = clauses(s, "opens");
        if (of.isEmpty()) {
            return s.houses.get(h)[2] < 10 ? 1 : 0;
        }
        for (Clause c : of) {
            if (holds(s, c, p, h, -1, s.terms[0]) != null) {
                return 1;
            }
        }
        return 0;
    }

    private static int bars(State s, int from, int to, int h) {
        for (Clause c : clauses(s, "bars")) {
            if (holds(s, c, from, h, to, s.terms[0]) != null) {
                return 1;
            }
        }
        return 0;
    }

    private static boolean buys(State s, int from, int to, int h) {
        return s.lives(from) && s.lives(to) && bars(s, from, to, h) == 0 && s.rights[to][h] < 99
            && s.people.get(to)[2] >= costs(s, from, to, h);
    }

    private void keepForUndo(int kind, boolean kept) {
        if (!kept) {
            return;
        }
        undo.add(s.copy());
        undoKinds.add(kind);
        if (undo.size() > 16) {
            undo.remove(0);
            undoKinds.remove(0);
        }
    }

    private int doRing(int p, int h, boolean kept) {
        if (!s.isPerson(p) || !s.isHouse(h)) {
            return -2;
        }
        if (!s.lives(p) || s.left(p, h) < 1) {
            return -3;
        }
        keepForUndo(0, kept);
        int opens = opens(s, p, h);
        int tires = has(p, h, 4);
        s.used[p][h]++;
        s.houses.get(h)[2] = Math.min(99, s.houses.get(h)[2] + tires);
        return opens;
    }

    private int doSell(int from, int to, int h) {
        if (from == to) {
            return -1;
        }
        if (!s.isPerson(from) || !s.isPerson(to) || !s.isHouse(h)) {
            return -2;
        }
        if (asks(from, to, h, 2) == 0) {
            return -3;
        }
        keepForUndo(1, true);
        int costs = costs(s, from, to, h);
        s.rights[from][h]--;
        s.rights[to][h]++;
        s.people.get(to)[2] -= costs;
        s.people.get(from)[2] = Math.min(999, s.people.get(from)[2] + costs);
        return costs;
    }

    private int doDie(int p, boolean kept) {
        if (!s.isPerson(p)) {
            return -2;
        }
        if (!s.lives(p)) {
            return -3;
        }
        keepForUndo(2, kept);
        s.people.get(p)[5] = 0;
        List<Integer> heirs = new ArrayList<>();
        for (int i = 0; i < s.people.size(); i++) {
            if ((s.people.get(p)[4] >> i & 1) == 1 && s.lives(i)) {
                heirs.add(i);
            }
        }
        for (int h = 0; h < s.houses.size(); h++) {
            int rights = s.rights[p][h];
            s.rights[p][h] = 0;
            s.used[p][h] = 0;
            for (int i = 0; i < heirs.size(); i++) {
                int share = rights / heirs.size() + (i < rights % heirs.size() ? 1 : 0);
                s.rights[heirs.get(i)][h] = Math.min(99, s.rights[heirs.get(i)][h] + share);
            }
        }
        return heirs.size();
    }

    private int doPass(boolean kept) {
        if (s.terms[0] == 999) {
            return -3;
        }
        keepForUndo(3, kept);
        s.used = new int[8][6];
        for (int[] h : s.houses) {
            h[2] = 0;
        }
        return ++s.terms[0];
    }

    private int tell(int answer) {
        return answer < 0 ? no(answer) : yes(answer);
    }

    int ring(int p, int h) {
        return tell(doRing(p, h, true));
    }

    int sell(int from, int to, int h) {
        return tell(doSell(from, to, h));
    }

    int die(int p) {
        return tell(doDie(p, true));
    }

    int pass() {
        return tell(doPass(true));
    }

    int undo() {
        if (undo.isEmpty()) {
            return no(-3);
        }
        State then = undo.remove(undo.size() - 1);
        // Only what deeds change goes back.
        s.rights = then.rights;
        s.used = then.used;
        s.terms[0] = then.terms[0];
        for (int p = 0; p < s.people.size(); p++) {
            s.people.get(p)[2] = then.people.get(p)[2];
            s.people.get(p)[5] = then.people.get(p)[5];
        }
        for (int h = 0; h < s.houses.size(); h++) {
            s.houses.get(h)[2] = then.houses.get(h)[2];
        }
        return yes(undoKinds.remove(undoKinds.size() - 1));
    }

    private static int steps(int a, int b) {
        return Math.abs(a / 5 - b / 5) + Math.abs(a % 5 - b % 5);
    }

    private static boolean ahead(int[] a, int[] b) {
        for (int i = 0; i < a.length; i++) {
            if (a[i] != b[i]) {
                return a[i] < b[i];
            }
        }
        return false;
    }

    int visits(int p, int n, int i) {
        if (!s.isPerson(p) || !s.lives(p) || n < 0 || n > 99) {
            return -1;
        }
        // Every row of houses, as digits to the base 7 (0: the row has ended).
        int[] best = new int[0];
        int bestSteps = 0;
        for (int code = 0; code < 7 * 7 * 7 * 7 * 7 * 7; code++) {
            int[] row = new int[6];
            int length = 0;
            int rest = code;
            boolean fine = true;
            int seen = 0;
            for (int k = 0; k < 6 && fine; k++, rest /= 7) {
                int h = rest % 7 - 1;
                if (h < 0) {
                    fine = rest == 0;
                    break;
                }
                fine = s.isHouse(h) && (seen >> h & 1) == 0 && s.left(p, h) >= 1;
                seen |= 1 << h;
                row[length++] = h;
            }
            if (!fine) {
                continue;
            }
            int walked = 0;
            int from = s.people.get(p)[0];
            for (int k = 0; k < length; k++) {
                walked += steps(from, s.houses.get(row[k])[0]);
                from = s.houses.get(row[k])[0];
            }
            row = Arrays.copyOf(row, length);
            if (walked <= n && (length > best.length || length == best.length
                && (walked < bestSteps || walked == bestSteps && ahead(row, best)))) {
                best = row;
                bestSteps = walked;
            }
        }
        return i == -1 ? best.length : i >= 0 && i < best.length ? best[i] : -1;
    }

    int exchange(int what) {
        int n = s.people.size();
        if (what != 0 && !s.isPerson(what - 1)) {
            return -1;
        }
        int[] best = new int[n];
        Arrays.fill(best, 100);
        int[] most = {0};
        tryGivers(new int[n], 0, best, most);
        return what == 0 ? most[0] : best[what - 1];
    }

    private void tryGivers(int[] row, int p, int[] best, int[] most) {
        if (p == row.length) {
            int giving = 0;
            int getting = 0;
            int many = 0;
            for (int i = 0; i < p; i++) {
                if (row[i] != 100) {
                    getting |= 1 << i;
                    giving |= 1 << row[i];
                    many++;
                }
            }
            if (getting == giving && (many > most[0] || many == most[0] && ahead(row, best))) {
                most[0] = many;
                System.arraycopy(row, 0, best, 0, p);
            }
            return;
        }
        int wanted = s.people.get(p)[3];
        for (int g = 0; g < row.length; g++) {
            boolean taken = false;
            for (int i = 0; i < p; i++) {
                taken |= row[i] == g;
            }
            if (!taken && g != p && wanted >= 0 && s.lives(g) && s.lives(p) && s.left(g, wanted) >= 1) {
                row[p] = g;
                tryGivers(row, p + 1, best, most);
            }
        }
        row[p] = 100;
        tryGivers(row, p + 1, best, most);
    }

    int clue(int h, int steps) {
        if (steps < 0 || steps > 99) {
            return no(-1);
        }
        if (!s.isHouse(h)) {
            return no(-2);
        }
        if (s.clues.size() == 6) {
            return no(-5);
        }
        s.clues.add(new int[] {h, steps});
        return yes(s.clues.size());
    }

    int forget() {
        int before = s.clues.size();
        s.clues.clear();
        return before;
    }

    int who() {
        int bits = 0;
        for (int p = 0; p < s.people.size(); p++) {
            boolean can = s.lives(p);
            int place = s.people.get(p)[0];
            int[] left = new int[6];
            for (int h = 0; h < 6; h++) {
                left[h] = s.left(p, h);
            }
            for (int[] clue : s.clues) {
                int next = s.houses.get(clue[0])[0];
                can &= steps(place, next) <= clue[1] && --left[clue[0]] >= 0;
                place = next;
            }
            bits |= can ? 1 << p : 0;
        }
        return bits;
    }

    int look(int what) {
        int who = who();
        if (what < 0 || what > 1 || who == 0 || s.houses.isEmpty()) {
            return -1;
        }
        int best = -1;
        int least = 99;
        for (int h = 0; h < s.houses.size(); h++) {
            int yes = 0;
            for (int p = 0; p < 8; p++) {
                yes += (who >> p & 1) == 1 && s.left(p, h) > 0 ? 1 : 0;
            }
            int most = Math.max(yes, Integer.bitCount(who) - yes);
            if (most < least) {
                least = most;
                best = h;
            }
        }
        return what == 0 ? best : least;
    }

    int amend(int h, int what) {
        if (!s.isHouse(h) || what < 0 || what > 1) {
            return -1;
        }
        for (int many = 0; many <= 8; many++) {
            for (int bits = 0; bits < 256; bits++) {
                int rest = 0;
                for (int p = 0; p < 8; p++) {
                    rest += (bits >> p & 1) == 1 ? 0 : s.rights[p][h];
                }
                if (Integer.bitCount(bits) == many && rest <= s.houses.get(h)[1]) {
                    return what == 0 ? many : bits;
                }
            }
        }
        return -99;
    }

    int given(int h, int n, int p) {
        if (!s.isHouse(h) || !s.isPerson(p) || n < 0 || n > 99) {
            return -1;
        }
        int[] got = new int[8];
        for (int i = 0; i < n; i++) {
            int best = 0;
            for (int q = 1; q < 8; q++) {
                // The same as the quotients: both have divisors of at most 100.
                java.math.BigDecimal a = java.math.BigDecimal.valueOf(s.rights[q][h])
                    .divide(java.math.BigDecimal.valueOf(got[q] + 1), 20, java.math.RoundingMode.HALF_EVEN);
                java.math.BigDecimal b = java.math.BigDecimal.valueOf(s.rights[best][h])
                    .divide(java.math.BigDecimal.valueOf(got[best] + 1), 20, java.math.RoundingMode.HALF_EVEN);
                if (a.compareTo(b) > 0) {
                    best = q;
                }
            }
            if (s.rights[best][h] > 0) {
                got[best]++;
            }
        }
        return got[p];
    }

    int keep(int h, int k, int n, int i) {
        if (!s.isHouse(h) || k < 0 || k > 20 || n < 1 || n > 8 || i < -1 || i >= n) {
            return -1;
        }
        int[] best = new int[n];
        int[] most = {0};
        tryRows(h, k, new int[n], 0, 0, best, most);
        return i == -1 ? most[0] : best[i];
    }

    private void tryRows(int h, int k, int[] row, int year, int sum, int[] best, int[] most) {
        if (year == row.length) {
            // Rows come in their order, the row of noughts first.
            if (sum > most[0]) {
                most[0] = sum;
                System.arraycopy(row, 0, best, 0, row.length);
            }
            return;
        }
        int worth = worth(s, h, s.terms[0] + year);
        int gain = 0;
        for (int now = 0; now <= k; now++) {
            row[year] = now;
            tryRows(h, k - now, row, year + 1, sum + gain, best, most);
            gain += Math.max(0, worth - now);
        }
    }

    int chain(int from, int to, int h, int i) {
        if (!s.isPerson(from) || !s.isPerson(to) || from == to || !s.isHouse(h) || s.left(from, h) < 1) {
            return -1;
        }
        List<Integer> best = new ArrayList<>();
        int[] least = {-1};
        tryChains(from, to, h, 0, new ArrayList<>(List.of(from)), best, least);
        if (least[0] < 0) {
            return -1;
        }
        return i == -1 ? least[0] : i >= 0 && i < best.size() - 1 ? best.get(i + 1) : -1;
    }

    private void tryChains(int now, int to, int h, int cost, List<Integer> row, List<Integer> best, int[] least) {
        if (now == to) {
            // Rows of one length come in their order.
            if (least[0] < 0 || cost < least[0] || cost == least[0] && row.size() < best.size()) {
                least[0] = cost;
                best.clear();
                best.addAll(row);
            }
            return;
        }
        for (int next = 0; next < s.people.size(); next++) {
            if (!row.contains(next) && buys(s, now, next, h)) {
                row.add(next);
                tryChains(next, to, h, cost + costs(s, now, next, h), row, best, least);
                row.remove(row.size() - 1);
            }
        }
    }

    long likely(int k, int n) {
        if (k < 0 || k > 20 || n < 0 || n > 60) {
            return -1;
        }
        return chance(k, n, new long[21][61]);
    }

    private long chance(int k, int n, long[][] known) {
        if (k == 0) {
            return 1000000000000L;
        }
        if (n == 0) {
            return 0;
        }
        if (known[k][n] == 0) {
            known[k][n] = 1 + s.terms[1] * chance(k, n - 1, known) / 10
                + (10 - s.terms[1]) * chance(k - 1, n - 1, known) / 10;
        }
        return known[k][n] - 1;
    }

    int generations(int seed, int n) {
        if (seed < 0 || seed > 1000000 || n < 1 || n > 60) {
            return no(-1);
        }
        if (s.people.isEmpty() || s.houses.isEmpty()) {
            return no(-3);
        }
        State now = s.copy();
        long draw = seed;
        int opened = 0;
        for (int i = 0; i < n && s.terms[0] < 999; i++) {
            draw = (draw * 1103 + 12345) % 1000003;
            int p = (int) (draw % s.people.size());
            draw = (draw * 1103 + 12345) % 1000003;
            int h = (int) (draw % s.houses.size());
            draw = (draw * 1103 + 12345) % 1000003;
            opened += Math.max(0, doRing(p, h, false));
            if (draw % 8 == 0) {
                doDie(p, false);
            }
            if (draw % 8 == 1) {
                doPass(false);
            }
        }
        latest = s;
        s = now;
        return yes(opened);
    }

    int drawn(int p, int h) {
        return latest == null || !latest.isPerson(p) || !latest.isHouse(h) ? -1 : latest.rights[p][h];
    }

    int image(int k) {
        if (k < 0 || k > 1) {
            return no(-1);
        }
        images[k] = s.copy();
        return yes(0);
    }

    int back(int k) {
        if (k < 0 || k > 1) {
            return no(-1);
        }
        if (images[k] == null) {
            return no(-2);
        }
        s = images[k].copy();
        forgetDeeds();
        return yes(0);
    }

    int count(int what) {
        int living = 0;
        for (int[] p : s.people) {
            living += p[5];
        }
        int[] all = {s.houses.size(), s.people.size(), living, s.clues.size(), s.laws.size(), undo.size(), tape.length(),
            refusals[1], refusals[2], refusals[3], refusals[5], refusals[6], s.force, s.terms[0], s.terms[1], s.terms[2]};
        return what < 0 || what >= all.length ? -1 : all[what];
    }
}
