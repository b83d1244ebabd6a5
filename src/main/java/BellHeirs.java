/**
 * Doorbells that are inherited. The document ../shared/DOC.md tells what each call promises; the
 * words in capitals there are used in the comments here.
 */
public final class BellHeirs {
    public static final int NONE = -1;

    private static final int MOST_PLACES = 25;
    private static final int MOST_HOUSES = 6;
    private static final int MOST_PEOPLE = 8;
    private static final int MOST_CLUES = 6;
    private static final int MOST_LAWS = 6;
    private static final int MOST_TAPE = 400;
    private static final int MOST_CLAUSES = 12;
    private static final int MOST_PARTS = 50;
    private static final int MOST_BRACKETS = 8;
    private static final int MOST_NUMBER = 1000;
    private static final int MOST_UNDONE = 16;
    private static final int MOST_IMAGES = 2;
    private static final int MOST_RIGHTS = 99;
    private static final int MOST_PURSE = 999;
    private static final int LAST_YEAR = 999;

    private static final int BAD_NUMBER = -1;
    private static final int NO_SUCH = -2;
    private static final int CANNOT_BE = -3;
    private static final int NO_ROOM = -5;
    private static final int BAD_TEXT = -6;

    // The kinds of deeds are what undo() answers, and the kinds of CLAUSES of ORDERS.
    private static final int RING = 0;
    private static final int SELL = 1;
    private static final int DIE = 2;
    private static final int PASS = 3;

    // The kinds of CLAUSES of LAWS; those up to WORTH have a SUM.
    private static final int TIRES = 0;
    private static final int COSTS = 1;
    private static final int WORTH = 2;
    private static final int OPENS = 3;
    private static final int BARS = 4;

    // Where the "if" of a CLAUSE stands behind its three SUMS at most.
    private static final int IF = 3;
    private static final int MARKS = 5;

    // The words of LAWS.
    private static final int LAW_PERSON = 0;
    private static final int LAW_AGE = 1;
    private static final int LAW_PURSE = 2;
    private static final int LAW_HOUSE = 3;
    private static final int LAW_WEARY = 4;
    private static final int LAW_LEFT = 5;
    private static final int LAW_YEAR = 6;
    private static final int LAW_TO = 7;
    private static final int LAW_MOOD = 8;
    private static final int LAW_WORDS = 9;

    // The words of ORDERS; those with a P or an H have one place for each.
    private static final int ORDER_YEAR = 0;
    private static final int ORDER_DONE = 1;
    private static final int ORDER_LATEST = 2;
    private static final int ORDER_LIVING = 3;
    private static final int ORDER_PURSE = 4;
    private static final int ORDER_LEFT = 12;
    private static final int ORDER_WEARY = 20;
    private static final int ORDER_WORDS = 26;

    // What a step of a SUM or a TEST does; a step is OPERATION times its number, and its argument.
    private static final int OPERATION = 2048;
    private static final int TAKE_NUMBER = 0;
    private static final int TAKE_WORD = 1;
    private static final int ADD = 2;
    private static final int SUBTRACT = 3;
    private static final int MULTIPLY = 4;
    private static final int DIVIDE = 5;
    private static final int REMAINDER = 6;
    private static final int LESS = 7;
    private static final int MORE = 8;
    private static final int SAME = 9;
    private static final int NOT = 10;
    private static final int SKIP_IF_SO = 11;
    private static final int SKIP_IF_NOT = 12;

    private static final int MOST_VALUE = 1_000_000_000;
    // No SUM has this value, so it can stand for a BROKEN one.
    private static final int BROKEN = 2_000_000_000;

    private static final int AT_END = 0;
    private static final int LETTERS = 1;
    private static final int DIGITS = 2;
    private static final int SIGN = 3;

    private static final int NO_GIVER = 100;
    private static final int MOST_VISITED_STEPS = 99;
    private static final int MOST_CLUE_STEPS = 99;
    private static final int MOST_GIVEN = 99;
    private static final int MOST_KEPT = 20;
    private static final int MOST_KEPT_YEARS = 8;
    private static final int MOST_OPENINGS = 20;
    private static final int MOST_LIKELY_RINGS = 60;
    private static final int MOST_GENERATIONS = 60;
    private static final int MOST_SEED = 1_000_000;
    private static final long WHOLE_CHANCE = 1_000_000_000_000L;

    private final Suburb town = new Suburb();
    private final Suburb paper = new Suburb();
    private final Suburb[] images = new Suburb[MOST_IMAGES];
    private final Log log = new Log();
    private final Tape tape = new Tape();
    private final Reader reader = new Reader(tape);
    private final Asker asker = new Asker();
    private final Deeds deeds = new Deeds(asker);
    private final Plans plans = new Plans();
    private final Shares shares = new Shares();
    private final int[] drawnRights = new int[MOST_PEOPLE * MOST_HOUSES];
    private int drawnPeople = 0;
    private int drawnHouses = 0;
    private int faultPlace = NONE;
    private int stoppedClause = NONE;
    private int rustSeen = 0;
    private final int[] refusedBy = new int[7];
    private int latestRefusal = 0;

    /** A suburb without bells. */
    public BellHeirs() {
    }

    public int house(int place, int bears) {
        if (!isWithin(place, MOST_PLACES - 1) || !isWithin(bears, 99)) {
            return refuse(BAD_NUMBER);
        }
        if (town.houses >= MOST_HOUSES) {
            return refuse(NO_ROOM);
        }
        log.clear();
        return accept(town.addHouse(place, bears));
    }

    public int at(int house, int what) {
        if (!town.hasHouse(house)) {
            return NONE;
        }
        switch (what) {
            case 0: return town.place[house];
            case 1: return town.bears[house];
            case 2: return town.ledger.weary[house];
            case 3: return town.allRightsTo(house);
            case 4: return asker.worthIn(town, house, town.ledger.year);
            default: return NONE;
        }
    }

    public int person(int home, int age, int purse) {
        if (!isWithin(home, MOST_PLACES - 1) || !isWithin(age, 99) || !isWithin(purse, MOST_PURSE)) {
            return refuse(BAD_NUMBER);
        }
        if (town.people >= MOST_PEOPLE) {
            return refuse(NO_ROOM);
        }
        log.clear();
        return accept(town.addPerson(home, age, purse));
    }

    public int of(int person, int what) {
        if (!town.hasPerson(person)) {
            return NONE;
        }
        switch (what) {
            case 0: return town.home[person];
            case 1: return town.age[person];
            case 2: return town.ledger.purse[person];
            case 3: return town.want[person];
            case 4: return town.heirs[person];
            case 5: return town.lives(person) ? 1 : 0;
            default: return NONE;
        }
    }

    public int want(int person, int house) {
        if (house != NONE && !town.hasHouse(house)) {
            return refuse(BAD_NUMBER);
        }
        if (!town.hasPerson(person)) {
            return refuse(NO_SUCH);
        }
        town.want[person] = house;
        return accept(0);
    }

    public int will(int person, int heirs) {
        boolean known = town.hasPerson(person);
        boolean strangers = heirs < 0 || heirs >= 1 << town.people;
        if (strangers || (known && hasBit(heirs, person))) {
            return refuse(BAD_NUMBER);
        }
        if (!known) {
            return refuse(NO_SUCH);
        }
        int before = town.heirs[person];
        town.heirs[person] = heirs;
        return accept(before);
    }

    public int right(int person, int house, int rings) {
        if (!isWithin(rings, MOST_RIGHTS)) {
            return refuse(BAD_NUMBER);
        }
        if (!town.hasPerson(person) || !town.hasHouse(house)) {
            return refuse(NO_SUCH);
        }
        if (!town.lives(person) || rings < town.usedOf(person, house)) {
            return refuse(CANNOT_BE);
        }
        int before = town.rightsOf(person, house);
        town.ledger.rights[slot(person, house)] = rings;
        log.clear();
        return accept(before);
    }

    public int has(int person, int house, int what) {
        if (!town.hasPerson(person) || !town.hasHouse(house)) {
            return NONE;
        }
        switch (what) {
            case 0: return town.rightsOf(person, house);
            case 1: return town.usedOf(person, house);
            case 2: return town.leftOf(person, house);
            case 3: return asker.opensTo(town, person, house) ? 1 : 0;
            case 4: return asker.tiring(town, person, house);
            default: return NONE;
        }
    }

    public int asks(int from, int to, int house, int what) {
        if (!town.hasPerson(from) || !town.hasPerson(to) || from == to || !town.hasHouse(house)) {
            return NONE;
        }
        switch (what) {
            case 0: return asker.price(town, from, to, house);
            case 1: return asker.isBarred(town, from, to, house) ? 1 : 0;
            case 2: return canSell(from, to, house) ? 1 : 0;
            default: return NONE;
        }
    }

    public int terms(int what, int value) {
        int before;
        if (what == 0 && isWithin(value, LAST_YEAR)) {
            before = town.ledger.year;
            town.ledger.year = value;
        } else if (what == 1 && isWithin(value, 10)) {
            before = town.sleep;
            town.sleep = value;
        } else if (what == 2 && isWithin(value, 9)) {
            before = town.mood;
            town.mood = value;
        } else {
            return refuse(BAD_NUMBER);
        }
        log.clear();
        return accept(before);
    }

    public int feed(int a, int b, int c, int d, int e) {
        if (tape.length + 20 > MOST_TAPE) {
            return NONE;
        }
        tape.addFour(a);
        tape.addFour(b);
        tape.addFour(c);
        tape.addFour(d);
        tape.addFour(e);
        return tape.length;
    }

    public int end(int n) {
        if (!isWithin(n, tape.length)) {
            return NONE;
        }
        tape.length = n;
        return n;
    }

    public int row() {
        if (tape.length == 0) {
            return refuse(BAD_TEXT);
        }
        int came = 0;
        int rusty = 0;
        for (int start = 0; start < tape.length; start += 4) {
            if (admit(start)) {
                came++;
            } else {
                rusty++;
            }
        }
        tape.length = 0;
        rustSeen = rusty;
        log.clear();
        return accept(came);
    }

    public int rust() {
        return rustSeen;
    }

    public int law() {
        if (town.laws >= MOST_LAWS) {
            tape.length = 0;
            return refuse(NO_ROOM);
        }
        faultPlace = reader.read(true);
        tape.length = 0;
        if (faultPlace != NONE) {
            return refuse(BAD_TEXT);
        }
        return accept(town.addLaw(new Text(reader.text)));
    }

    public int orders() {
        stoppedClause = NONE;
        faultPlace = reader.read(false);
        tape.length = 0;
        if (faultPlace != NONE) {
            return refuse(BAD_TEXT);
        }
        // Run on paper first: so nothing need be given back, what can be undone neither.
        paper.copyFrom(town);
        stoppedClause = deeds.run(reader.text, paper, null);
        if (stoppedClause != NONE) {
            return refuse(CANNOT_BE);
        }
        deeds.run(reader.text, town, log);
        return accept(deeds.done);
    }

    public int fault() {
        return faultPlace;
    }

    public int stopped() {
        return stoppedClause;
    }

    public int force(int law) {
        if (law != NONE && (law < 0 || law >= town.laws)) {
            return refuse(NO_SUCH);
        }
        int before = town.force;
        town.force = law;
        return accept(before);
    }

    public int ring(int person, int house) {
        return tell(deeds.ringBell(town, log, person, house));
    }

    public int sell(int from, int to, int house) {
        return tell(deeds.sellRing(town, log, from, to, house));
    }

    public int die(int person) {
        return tell(deeds.bury(town, log, person));
    }

    public int pass() {
        return tell(deeds.turnYear(town, log));
    }

    public int undo() {
        int kind = log.takeBack(town.ledger);
        return kind == NONE ? refuse(CANNOT_BE) : accept(kind);
    }

    public int visits(int person, int n, int i) {
        if (!town.lives(person) || !isWithin(n, MOST_VISITED_STEPS)) {
            return NONE;
        }
        plans.findVisits(town, person, n);
        if (i == NONE) {
            return plans.visited;
        }
        return i >= 0 && i < plans.visited ? plans.visitRow[i] : NONE;
    }

    public int exchange(int what) {
        if (what == 0) {
            return plans.findExchange(town);
        }
        if (what < 1 || !town.hasPerson(what - 1)) {
            return NONE;
        }
        plans.findExchange(town);
        return plans.giver[what - 1];
    }

    public int clue(int house, int steps) {
        if (!isWithin(steps, MOST_CLUE_STEPS)) {
            return refuse(BAD_NUMBER);
        }
        if (!town.hasHouse(house)) {
            return refuse(NO_SUCH);
        }
        if (town.clues >= MOST_CLUES) {
            return refuse(NO_ROOM);
        }
        town.clueHouse[town.clues] = house;
        town.clueSteps[town.clues] = steps;
        town.clues++;
        return accept(town.clues);
    }

    public int forget() {
        int before = town.clues;
        town.clues = 0;
        return before;
    }

    public int who() {
        return town.suspects();
    }

    public int look(int what) {
        int suspects = town.suspects();
        if (suspects == 0 || (what != 0 && what != 1)) {
            return NONE;
        }
        int best = NONE;
        int fewest = MOST_PEOPLE + 1;
        for (int house = 0; house < town.houses; house++) {
            int most = town.remainAtMost(suspects, house);
            if (most < fewest) {
                fewest = most;
                best = house;
            }
        }
        return best == NONE || what == 0 ? best : fewest;
    }

    public int amend(int house, int what) {
        if (!town.hasHouse(house) || (what != 0 && what != 1)) {
            return NONE;
        }
        int struck = shares.struckOut(town, house);
        return what == 0 ? Integer.bitCount(struck) : struck;
    }

    public int given(int house, int n, int person) {
        if (!town.hasHouse(house) || !town.hasPerson(person) || !isWithin(n, MOST_GIVEN)) {
            return NONE;
        }
        shares.giveOut(town, house, n);
        return shares.got[person];
    }

    public int keep(int house, int k, int n, int i) {
        if (!town.hasHouse(house) || !isWithin(k, MOST_KEPT) || n < 1 || n > MOST_KEPT_YEARS) {
            return NONE;
        }
        if (i < NONE || i >= n) {
            return NONE;
        }
        for (int year = 0; year < n; year++) {
            shares.worth[year] = asker.worthIn(town, house, town.ledger.year + year);
        }
        int most = shares.keepRings(k, n);
        return i == NONE ? most : shares.usedIn[i];
    }

    public int chain(int from, int to, int house, int i) {
        if (!town.hasPerson(from) || !town.hasPerson(to) || from == to || !town.hasHouse(house)) {
            return NONE;
        }
        if (town.leftOf(from, house) < 1) {
            return NONE;
        }
        setSales(house);
        int cost = plans.findChain(from, to, town.people);
        if (cost == NONE || i == NONE) {
            return cost;
        }
        return i >= 0 && i < plans.buyers ? plans.buyerRow[i] : NONE;
    }

    public long likely(int k, int n) {
        if (!isWithin(k, MOST_OPENINGS) || !isWithin(n, MOST_LIKELY_RINGS)) {
            return NONE;
        }
        return shares.chance(k, n, town.sleep);
    }

    public int generations(int seed, int n) {
        if (!isWithin(seed, MOST_SEED) || n < 1 || n > MOST_GENERATIONS) {
            return refuse(BAD_NUMBER);
        }
        if (town.people == 0 || town.houses == 0) {
            return refuse(CANNOT_BE);
        }
        paper.copyFrom(town);
        int opened = deeds.live(paper, seed, n);
        drawnPeople = paper.people;
        drawnHouses = paper.houses;
        System.arraycopy(paper.ledger.rights, 0, drawnRights, 0, drawnRights.length);
        return accept(opened);
    }

    public int drawn(int person, int house) {
        if (person < 0 || person >= drawnPeople || house < 0 || house >= drawnHouses) {
            return NONE;
        }
        return drawnRights[slot(person, house)];
    }

    public int image(int k) {
        if (!isWithin(k, MOST_IMAGES - 1)) {
            return refuse(BAD_NUMBER);
        }
        if (images[k] == null) {
            images[k] = new Suburb();
        }
        images[k].copyFrom(town);
        return accept(0);
    }

    public int back(int k) {
        if (!isWithin(k, MOST_IMAGES - 1)) {
            return refuse(BAD_NUMBER);
        }
        Suburb then = images[k];
        if (then == null) {
            return refuse(NO_SUCH);
        }
        town.copyFrom(then);
        log.clear();
        return accept(0);
    }

    public int count(int what) {
        switch (what) {
            case 0: return town.houses;
            case 1: return town.people;
            case 2: return town.livingPeople();
            case 3: return town.clues;
            case 4: return town.laws;
            case 5: return log.size;
            case 6: return tape.length;
            case 7: return refusedBy[-BAD_NUMBER];
            case 8: return refusedBy[-NO_SUCH];
            case 9: return refusedBy[-CANNOT_BE];
            case 10: return refusedBy[-NO_ROOM];
            case 11: return refusedBy[-BAD_TEXT];
            case 12: return town.force;
            case 13: return town.ledger.year;
            case 14: return town.sleep;
            case 15: return town.mood;
            default: return NONE;
        }
    }

    public int status() {
        return latestRefusal;
    }

    private int refuse(int code) {
        latestRefusal = code;
        if (code < 0 && code > -refusedBy.length) {
            refusedBy[-code]++;
        }
        return code;
    }

    private int accept(int answer) {
        latestRefusal = 0;
        return answer;
    }

    // Only for answers that are never below 0 unless they are refusals.
    private int tell(int answer) {
        return answer < 0 ? refuse(answer) : accept(answer);
    }

    private boolean admit(int start) {
        if (start + 4 > tape.length || town.people >= MOST_PEOPLE) {
            return false;
        }
        int home = tape.bytes[start];
        int age = tape.bytes[start + 1];
        int tens = tape.bytes[start + 2];
        int ones = tape.bytes[start + 3];
        int purse = 10 * tens + ones;
        if (home >= MOST_PLACES || age > 99 || ones > 9 || purse > MOST_PURSE) {
            return false;
        }
        town.addPerson(home, age, purse);
        return true;
    }

    private boolean canSell(int from, int to, int house) {
        return town.leftOf(from, house) >= 1 && deeds.canBuy(town, from, to, house);
    }

    private void setSales(int house) {
        for (int from = 0; from < town.people; from++) {
            for (int to = 0; to < town.people; to++) {
                int price = NONE;
                if (from != to && deeds.canBuy(town, from, to, house)) {
                    price = asker.price(town, from, to, house);
                }
                plans.sale[from * MOST_PEOPLE + to] = price;
            }
        }
    }

    private static boolean isWithin(int value, int most) {
        return value >= 0 && value <= most;
    }

    private static boolean hasBit(int bits, int which) {
        return which >= 0 && which < 31 && (bits >> which & 1) == 1;
    }

    private static int slot(int person, int house) {
        return person * MOST_HOUSES + house;
    }

    private static int stepsBetween(int one, int other) {
        return Math.abs(one % 5 - other % 5) + Math.abs(one / 5 - other / 5);
    }

    /** What rings, sales, deaths and YEARS change: just what undo() gives back. */
    private static final class Ledger {
        final int[] rights = new int[MOST_PEOPLE * MOST_HOUSES];
        final int[] used = new int[MOST_PEOPLE * MOST_HOUSES];
        final int[] weary = new int[MOST_HOUSES];
        final int[] purse = new int[MOST_PEOPLE];
        // As bits of people.
        int dead = 0;
        int year = 0;

        void copyFrom(Ledger other) {
            System.arraycopy(other.rights, 0, rights, 0, rights.length);
            System.arraycopy(other.used, 0, used, 0, used.length);
            System.arraycopy(other.weary, 0, weary, 0, weary.length);
            System.arraycopy(other.purse, 0, purse, 0, purse.length);
            dead = other.dead;
            year = other.year;
        }
    }

    /** The ledgers as they were ahead of the latest deeds, the oldest of which are written over. */
    private static final class Log {
        private final Ledger[] ledgers = new Ledger[MOST_UNDONE];
        private final int[] kinds = new int[MOST_UNDONE];
        private int next = 0;
        int size = 0;

        void push(int kind, Ledger now) {
            // A ledger is made once only: later deeds are written over it.
            if (ledgers[next] == null) {
                ledgers[next] = new Ledger();
            }
            ledgers[next].copyFrom(now);
            kinds[next] = kind;
            next = (next + 1) % MOST_UNDONE;
            size = Math.min(size + 1, MOST_UNDONE);
        }

        int takeBack(Ledger into) {
            if (size == 0) {
                return NONE;
            }
            next = (next + MOST_UNDONE - 1) % MOST_UNDONE;
            size--;
            Ledger then = ledgers[next];
            if (then == null) {
                return NONE;
            }
            into.copyFrom(then);
            return kinds[next];
        }

        void clear() {
            size = 0;
        }
    }

    /** All that an IMAGE keeps. */
    private static final class Suburb {
        final Ledger ledger = new Ledger();
        int houses = 0;
        final int[] place = new int[MOST_HOUSES];
        final int[] bears = new int[MOST_HOUSES];
        int people = 0;
        final int[] home = new int[MOST_PEOPLE];
        final int[] age = new int[MOST_PEOPLE];
        final int[] want = new int[MOST_PEOPLE];
        final int[] heirs = new int[MOST_PEOPLE];
        int clues = 0;
        final int[] clueHouse = new int[MOST_CLUES];
        final int[] clueSteps = new int[MOST_CLUES];
        int sleep = 3;
        int mood = 0;
        int laws = 0;
        final Text[] lawTexts = new Text[MOST_LAWS];
        int force = NONE;

        void copyFrom(Suburb other) {
            ledger.copyFrom(other.ledger);
            houses = other.houses;
            System.arraycopy(other.place, 0, place, 0, place.length);
            System.arraycopy(other.bears, 0, bears, 0, bears.length);
            people = other.people;
            System.arraycopy(other.home, 0, home, 0, home.length);
            System.arraycopy(other.age, 0, age, 0, age.length);
            System.arraycopy(other.want, 0, want, 0, want.length);
            System.arraycopy(other.heirs, 0, heirs, 0, heirs.length);
            clues = other.clues;
            System.arraycopy(other.clueHouse, 0, clueHouse, 0, clueHouse.length);
            System.arraycopy(other.clueSteps, 0, clueSteps, 0, clueSteps.length);
            sleep = other.sleep;
            mood = other.mood;
            laws = other.laws;
            for (int i = 0; i < MOST_LAWS; i++) {
                lawTexts[i] = other.lawTexts[i];
            }
            force = other.force;
        }

        int addHouse(int where, int rings) {
            if (houses >= MOST_HOUSES) {
                return NONE;
            }
            int added = houses;
            houses++;
            place[added] = where;
            bears[added] = rings;
            ledger.weary[added] = 0;
            for (int person = 0; person < MOST_PEOPLE; person++) {
                ledger.rights[slot(person, added)] = 0;
                ledger.used[slot(person, added)] = 0;
            }
            return added;
        }

        int addPerson(int where, int years, int money) {
            if (people >= MOST_PEOPLE) {
                return NONE;
            }
            int added = people;
            people++;
            home[added] = where;
            age[added] = years;
            want[added] = NONE;
            heirs[added] = 0;
            ledger.purse[added] = money;
            ledger.dead &= ~(1 << added);
            for (int house = 0; house < MOST_HOUSES; house++) {
                ledger.rights[slot(added, house)] = 0;
                ledger.used[slot(added, house)] = 0;
            }
            return added;
        }

        int addLaw(Text text) {
            if (laws >= MOST_LAWS) {
                return NONE;
            }
            lawTexts[laws] = text;
            laws++;
            return laws - 1;
        }

        Text lawInForce() {
            return force >= 0 && force < laws && force < MOST_LAWS ? lawTexts[force] : null;
        }

        boolean hasHouse(int house) {
            return house >= 0 && house < houses;
        }

        boolean hasPerson(int person) {
            return person >= 0 && person < people;
        }

        boolean lives(int person) {
            return hasPerson(person) && !hasBit(ledger.dead, person);
        }

        int rightsOf(int person, int house) {
            return hasPerson(person) && hasHouse(house) ? ledger.rights[slot(person, house)] : 0;
        }

        int usedOf(int person, int house) {
            return hasPerson(person) && hasHouse(house) ? ledger.used[slot(person, house)] : 0;
        }

        int leftOf(int person, int house) {
            if (!hasPerson(person) || !hasHouse(house)) {
                return 0;
            }
            return ledger.rights[slot(person, house)] - ledger.used[slot(person, house)];
        }

        int allLeftOf(int person) {
            int sum = 0;
            for (int house = 0; house < houses; house++) {
                sum += leftOf(person, house);
            }
            return sum;
        }

        int allRightsTo(int house) {
            int sum = 0;
            for (int person = 0; person < people; person++) {
                sum += rightsOf(person, house);
            }
            return sum;
        }

        int livingPeople() {
            int living = 0;
            for (int person = 0; person < people; person++) {
                if (lives(person)) {
                    living++;
                }
            }
            return living;
        }

        int livingHeirs(int person) {
            int living = 0;
            for (int heir = 0; heir < people; heir++) {
                if (isLivingHeir(person, heir)) {
                    living++;
                }
            }
            return living;
        }

        boolean isLivingHeir(int person, int heir) {
            return hasPerson(person) && lives(heir) && hasBit(heirs[person], heir);
        }

        /** WHO can have RUNG, as bits. */
        int suspects() {
            int bits = 0;
            for (int person = 0; person < people; person++) {
                if (lives(person) && couldWalk(person) && hasRingsForClues(person)) {
                    bits |= 1 << person;
                }
            }
            return bits;
        }

        private boolean couldWalk(int person) {
            int from = home[person];
            for (int i = 0; i < clues; i++) {
                int to = place[clueHouse[i]];
                if (stepsBetween(from, to) > clueSteps[i]) {
                    return false;
                }
                from = to;
            }
            return true;
        }

        private boolean hasRingsForClues(int person) {
            for (int house = 0; house < houses; house++) {
                int needed = 0;
                for (int i = 0; i < clues; i++) {
                    if (clueHouse[i] == house) {
                        needed++;
                    }
                }
                if (leftOf(person, house) < needed) {
                    return false;
                }
            }
            return true;
        }

        /** How many of the suspects are left at most, if one looks at a HOUSE. */
        int remainAtMost(int suspects, int house) {
            int with = 0;
            int without = 0;
            for (int person = 0; person < people; person++) {
                if (hasBit(suspects, person)) {
                    if (leftOf(person, house) >= 1) {
                        with++;
                    } else {
                        without++;
                    }
                }
            }
            return Math.max(with, without);
        }
    }

    /** The TAPE, and the TOKEN of it that is looked at. */
    private static final class Tape {
        final int[] bytes = new int[MOST_TAPE];
        int length = 0;
        int token = AT_END;
        int start = 0;
        int number = 0;
        private int stop = 0;

        void addFour(int value) {
            for (int shift = 24; shift >= 0 && length < MOST_TAPE; shift -= 8) {
                bytes[length] = value >> shift & 255;
                length++;
            }
        }

        void rewind() {
            stop = 0;
            advance();
        }

        void advance() {
            start = stop;
            while (start < length && bytes[start] == ' ') {
                start++;
            }
            stop = start;
            if (start >= length) {
                token = AT_END;
            } else if (isLetter(bytes[start])) {
                token = LETTERS;
                while (stop < length && isLetter(bytes[stop])) {
                    stop++;
                }
            } else if (isDigit(bytes[start])) {
                token = DIGITS;
                number = 0;
                while (stop < length && isDigit(bytes[stop])) {
                    // A long row of digits stays beyond every NUMBER, but does not wrap around.
                    number = Math.min(number * 10 + bytes[stop] - '0', MOST_NUMBER * 10);
                    stop++;
                }
            } else {
                token = SIGN;
                stop++;
            }
        }

        boolean isSign(char sign) {
            return token == SIGN && start < length && bytes[start] == sign;
        }

        boolean isWord(String word) {
            if (token != LETTERS || stop - start != word.length()) {
                return false;
            }
            for (int i = 0; i < word.length(); i++) {
                if (bytes[start + i] != word.charAt(i)) {
                    return false;
                }
            }
            return true;
        }

        boolean isNumber(int least, int most) {
            return token == DIGITS && number >= least && number <= most;
        }

        private static boolean isLetter(int value) {
            return value >= 'a' && value <= 'z';
        }

        private static boolean isDigit(int value) {
            return value >= '0' && value <= '9';
        }
    }

    /** CLAUSES as they are run: SUMS and TESTS are rows of steps over a stack. */
    private static final class Text {
        int clauses = 0;
        int size = 0;
        private int open = 0;
        final int[] kind;
        final int[] times;
        // Where the steps of the parts of each CLAUSE begin: three SUMS, the "if", and the end.
        final int[] marks;
        final int[] steps;

        Text() {
            kind = new int[MOST_CLAUSES];
            times = new int[MOST_CLAUSES];
            marks = new int[MOST_CLAUSES * MARKS];
            steps = new int[MOST_TAPE];
        }

        Text(Text other) {
            clauses = Math.max(0, Math.min(other.clauses, MOST_CLAUSES));
            size = Math.max(0, Math.min(other.size, MOST_TAPE));
            kind = new int[clauses];
            times = new int[clauses];
            marks = new int[clauses * MARKS];
            steps = new int[size];
            System.arraycopy(other.kind, 0, kind, 0, clauses);
            System.arraycopy(other.times, 0, times, 0, clauses);
            System.arraycopy(other.marks, 0, marks, 0, clauses * MARKS);
            System.arraycopy(other.steps, 0, steps, 0, size);
        }

        void empty() {
            clauses = 0;
            size = 0;
        }

        void beginClause(int itsKind) {
            if (clauses >= kind.length) {
                return;
            }
            kind[clauses] = itsKind;
            times[clauses] = 1;
            for (int i = 0; i < MARKS; i++) {
                marks[clauses * MARKS + i] = size;
            }
            open = 0;
            clauses++;
        }

        /** What is added from now on is of this part of the latest CLAUSE. */
        void openPart(int part) {
            open = Math.max(0, Math.min(part, IF));
        }

        void setTimes(int often) {
            if (clauses >= 1) {
                times[clauses - 1] = often;
            }
        }

        /** Answers where the step is, for landSkip(). */
        int add(int operation, int argument) {
            if (size >= steps.length || clauses < 1) {
                return NONE;
            }
            steps[size] = operation * OPERATION + argument;
            size++;
            for (int i = open + 1; i < MARKS; i++) {
                marks[(clauses - 1) * MARKS + i] = size;
            }
            return size - 1;
        }

        /** The skip goes on behind all that has been added. */
        void landSkip(int skip) {
            if (skip >= 0 && skip < size) {
                steps[skip] = steps[skip] / OPERATION * OPERATION + size;
            }
        }

        boolean hasKind(int wanted) {
            for (int i = 0; i < clauses; i++) {
                if (kind[i] == wanted) {
                    return true;
                }
            }
            return false;
        }
    }

    /** Reads TEXTS of both languages; each reading method answers false at a FAULT. */
    private static final class Reader {
        final Text text = new Text();
        private final Tape tape;
        private boolean asLaw = true;
        private int parts = 0;

        Reader(Tape itsTape) {
            tape = itsTape;
        }

        /** Answers the place of the FAULT, or NONE. The TEXT is in text then. */
        int read(boolean itIsLaw) {
            asLaw = itIsLaw;
            parts = 0;
            text.empty();
            tape.rewind();
            for (int i = 0; i < MOST_CLAUSES; i++) {
                boolean fine = asLaw ? readLawClause() : readOrderClause();
                if (fine && tape.token == AT_END) {
                    return NONE;
                }
                if (!fine || !takeSign(';')) {
                    return tape.start;
                }
            }
            return tape.start;
        }

        private boolean readLawClause() {
            int kind = lawKind();
            if (kind == NONE) {
                return false;
            }
            text.beginClause(kind);
            tape.advance();
            return (kind > WORTH || readSum(0)) && readIf();
        }

        private int lawKind() {
            if (tape.isWord("tires")) {
                return TIRES;
            }
            if (tape.isWord("costs")) {
                return COSTS;
            }
            if (tape.isWord("worth")) {
                return WORTH;
            }
            if (tape.isWord("opens")) {
                return OPENS;
            }
            return tape.isWord("bars") ? BARS : NONE;
        }

        private boolean readOrderClause() {
            if (takeWord("ring")) {
                text.beginClause(RING);
                return readSum(0) && readNextSum("at", 1) && readTimes() && readIf();
            }
            if (takeWord("sell")) {
                text.beginClause(SELL);
                return readSum(0) && readNextSum("to", 1) && readNextSum("of", 2)
                    && readTimes() && readIf();
            }
            if (takeWord("die")) {
                text.beginClause(DIE);
                return readSum(0) && readTimes() && readIf();
            }
            if (takeWord("pass")) {
                text.beginClause(PASS);
                return readTimes() && readIf();
            }
            return false;
        }

        private boolean readNextSum(String word, int part) {
            if (!takeWord(word)) {
                return false;
            }
            text.openPart(part);
            return readSum(0);
        }

        private boolean readTimes() {
            if (!takeWord("times")) {
                return true;
            }
            if (!tape.isNumber(1, 20)) {
                return false;
            }
            text.setTimes(tape.number);
            tape.advance();
            return true;
        }

        private boolean readIf() {
            text.openPart(IF);
            return !takeWord("if") || readTest(0);
        }

        private boolean readTest(int depth) {
            if (!readBoth(depth)) {
                return false;
            }
            for (int i = 0; i < MOST_TAPE && takeWord("or"); i++) {
                int skip = text.add(SKIP_IF_SO, 0);
                if (!readBoth(depth)) {
                    return false;
                }
                text.landSkip(skip);
            }
            return true;
        }

        private boolean readBoth(int depth) {
            if (!readPlain(depth)) {
                return false;
            }
            for (int i = 0; i < MOST_TAPE && takeWord("and"); i++) {
                int skip = text.add(SKIP_IF_NOT, 0);
                if (!readPlain(depth)) {
                    return false;
                }
                text.landSkip(skip);
            }
            return true;
        }

        private boolean readPlain(int depth) {
            // A TAPE has room for a hundred of "not": counted, they need no deeper calls.
            boolean turned = false;
            for (int i = 0; i < MOST_TAPE && takeWord("not"); i++) {
                turned = !turned;
            }
            boolean fine = tape.isSign('(') ? readBracketedTest(depth) : readComparison(depth);
            if (fine && turned) {
                text.add(NOT, 0);
            }
            return fine;
        }

        private boolean readBracketedTest(int depth) {
            return depth < MOST_BRACKETS && takeSign('(') && readTest(depth + 1) && takeSign(')');
        }

        private boolean readComparison(int depth) {
            if (!readSum(depth)) {
                return false;
            }
            int operation = tape.isSign('<') ? LESS : tape.isSign('>') ? MORE : SAME;
            if (operation == SAME && !tape.isSign('=')) {
                return false;
            }
            tape.advance();
            if (!readSum(depth)) {
                return false;
            }
            text.add(operation, 0);
            return true;
        }

        private boolean readSum(int depth) {
            if (!readTerm(depth)) {
                return false;
            }
            for (int i = 0; i < MOST_TAPE && (tape.isSign('+') || tape.isSign('-')); i++) {
                int operation = tape.isSign('+') ? ADD : SUBTRACT;
                tape.advance();
                if (!readTerm(depth)) {
                    return false;
                }
                text.add(operation, 0);
            }
            return true;
        }

        private boolean readTerm(int depth) {
            if (!readFactor(depth)) {
                return false;
            }
            for (int i = 0; i < MOST_TAPE && isTermSign(); i++) {
                int operation = tape.isSign('*') ? MULTIPLY : tape.isSign('/') ? DIVIDE : REMAINDER;
                tape.advance();
                if (!readFactor(depth)) {
                    return false;
                }
                text.add(operation, 0);
            }
            return true;
        }

        private boolean isTermSign() {
            return tape.isSign('*') || tape.isSign('/') || tape.isSign('%');
        }

        /** What the document calls a PART. */
        private boolean readFactor(int depth) {
            if (tape.isSign('[')) {
                return depth < MOST_BRACKETS && takeSign('[') && readSum(depth + 1) && takeSign(']');
            }
            if (parts >= MOST_PARTS) {
                return false;
            }
            parts++;
            if (tape.isNumber(0, MOST_NUMBER)) {
                text.add(TAKE_NUMBER, tape.number);
                tape.advance();
                return true;
            }
            int word = asLaw ? lawWord() : orderWord();
            if (word == NONE) {
                return false;
            }
            tape.advance();
            return asLaw || word < ORDER_PURSE ? addWord(word) : readWhose(word);
        }

        private boolean addWord(int word) {
            text.add(TAKE_WORD, word);
            return true;
        }

        private boolean readWhose(int firstWord) {
            int most = firstWord == ORDER_WEARY ? MOST_HOUSES - 1 : MOST_PEOPLE - 1;
            if (!tape.isNumber(0, most)) {
                return false;
            }
            text.add(TAKE_WORD, firstWord + tape.number);
            tape.advance();
            return true;
        }

        private int lawWord() {
            if (tape.isWord("person")) {
                return LAW_PERSON;
            }
            if (tape.isWord("age")) {
                return LAW_AGE;
            }
            if (tape.isWord("purse")) {
                return LAW_PURSE;
            }
            if (tape.isWord("house")) {
                return LAW_HOUSE;
            }
            if (tape.isWord("weary")) {
                return LAW_WEARY;
            }
            if (tape.isWord("left")) {
                return LAW_LEFT;
            }
            if (tape.isWord("year")) {
                return LAW_YEAR;
            }
            if (tape.isWord("to")) {
                return LAW_TO;
            }
            return tape.isWord("mood") ? LAW_MOOD : NONE;
        }

        /** The word, or the first of its places if a P or an H is due behind it. */
        private int orderWord() {
            if (tape.isWord("year")) {
                return ORDER_YEAR;
            }
            if (tape.isWord("done")) {
                return ORDER_DONE;
            }
            if (tape.isWord("latest")) {
                return ORDER_LATEST;
            }
            if (tape.isWord("living")) {
                return ORDER_LIVING;
            }
            if (tape.isWord("purse")) {
                return ORDER_PURSE;
            }
            if (tape.isWord("left")) {
                return ORDER_LEFT;
            }
            return tape.isWord("weary") ? ORDER_WEARY : NONE;
        }

        private boolean takeWord(String word) {
            if (!tape.isWord(word)) {
                return false;
            }
            tape.advance();
            return true;
        }

        private boolean takeSign(char sign) {
            if (!tape.isSign(sign)) {
                return false;
            }
            tape.advance();
            return true;
        }
    }

    /** Reckons SUMS and TESTS. */
    private static final class Scale {
        private final int[] stack = new int[MOST_PARTS + 2];

        /** The value of a part of a CLAUSE (of a TEST 1 or 0; of one that is not there 1), or BROKEN. */
        int weigh(Text text, int clause, int part, int[] words) {
            if (clause < 0 || clause >= text.clauses || part < 0 || part > IF) {
                return BROKEN;
            }
            int from = text.marks[clause * MARKS + part];
            int to = text.marks[clause * MARKS + part + 1];
            int top = 0;
            stack[0] = 1;
            for (int at = from; at < to && at < text.size; at++) {
                int operation = text.steps[at] / OPERATION;
                int argument = text.steps[at] % OPERATION;
                if (operation <= TAKE_WORD) {
                    top++;
                    if (top >= stack.length || (operation == TAKE_WORD && argument >= words.length)) {
                        return BROKEN;
                    }
                    stack[top] = operation == TAKE_NUMBER ? argument : words[argument];
                } else if (operation == NOT) {
                    stack[top] = 1 - stack[top];
                } else if (operation >= SKIP_IF_SO) {
                    int skips = operation == SKIP_IF_SO ? 1 : 0;
                    if (stack[top] == skips) {
                        // A skip always leads on, so the loop ends; what is told so far stays on top.
                        at = Math.max(at, argument - 1);
                    } else {
                        top = Math.max(0, top - 1);
                    }
                } else {
                    top = Math.max(1, top - 1);
                    stack[top] = reckon(operation, stack[top], stack[top + 1]);
                    // Whatever a BROKEN SUM stands in is BROKEN too.
                    if (stack[top] == BROKEN) {
                        return BROKEN;
                    }
                }
            }
            return stack[top];
        }

        private static int reckon(int operation, int one, int other) {
            long value;
            switch (operation) {
                case ADD: value = (long) one + other; break;
                case SUBTRACT: value = (long) one - other; break;
                case MULTIPLY: value = (long) one * other; break;
                case DIVIDE: value = other == 0 ? BROKEN : one / other; break;
                case REMAINDER: value = other == 0 ? BROKEN : one % other; break;
                case LESS: value = one < other ? 1 : 0; break;
                case MORE: value = one > other ? 1 : 0; break;
                case SAME: value = one == other ? 1 : 0; break;
                default: value = BROKEN; break;
            }
            return value > MOST_VALUE || value < -MOST_VALUE ? BROKEN : (int) value;
        }
    }

    /** Asks the LAW in FORCE. */
    private static final class Asker {
        private static final int[] WITHOUT = {1, 5, 10};
        private static final int[] AT_MOST = {20, 999, 99};

        private final Scale scale = new Scale();
        private final int[] words = new int[LAW_WORDS];

        int tiring(Suburb suburb, int person, int house) {
            setWords(suburb, person, house, NONE);
            return lastTold(suburb.lawInForce(), TIRES);
        }

        int price(Suburb suburb, int from, int to, int house) {
            setWords(suburb, from, house, to);
            return lastTold(suburb.lawInForce(), COSTS);
        }

        int worthIn(Suburb suburb, int house, int year) {
            setWords(suburb, NONE, house, NONE);
            words[LAW_YEAR] = year;
            return lastTold(suburb.lawInForce(), WORTH);
        }

        boolean opensTo(Suburb suburb, int person, int house) {
            Text law = suburb.lawInForce();
            if (law == null || !law.hasKind(OPENS)) {
                return suburb.hasHouse(house) && suburb.ledger.weary[house] < 10;
            }
            setWords(suburb, person, house, NONE);
            return someHolds(law, OPENS);
        }

        boolean isBarred(Suburb suburb, int from, int to, int house) {
            setWords(suburb, from, house, to);
            return someHolds(suburb.lawInForce(), BARS);
        }

        private void setWords(Suburb suburb, int person, int house, int to) {
            boolean known = suburb.hasPerson(person);
            words[LAW_PERSON] = person;
            words[LAW_AGE] = known ? suburb.age[person] : NONE;
            words[LAW_PURSE] = known ? suburb.ledger.purse[person] : NONE;
            words[LAW_HOUSE] = house;
            words[LAW_WEARY] = suburb.hasHouse(house) ? suburb.ledger.weary[house] : NONE;
            words[LAW_LEFT] = known ? suburb.leftOf(person, house) : NONE;
            words[LAW_YEAR] = suburb.ledger.year;
            words[LAW_TO] = to;
            words[LAW_MOOD] = suburb.mood;
        }

        private int lastTold(Text law, int kind) {
            if (kind < TIRES || kind > WORTH) {
                return NONE;
            }
            int last = law == null ? NONE : law.clauses - 1;
            for (int i = last; i >= 0; i--) {
                if (law.kind[i] == kind && scale.weigh(law, i, IF, words) == 1) {
                    int told = scale.weigh(law, i, 0, words);
                    if (told != BROKEN) {
                        return Math.max(0, Math.min(told, AT_MOST[kind]));
                    }
                }
            }
            return WITHOUT[kind];
        }

        private boolean someHolds(Text law, int kind) {
            int clauses = law == null ? 0 : law.clauses;
            for (int i = 0; i < clauses; i++) {
                if (law.kind[i] == kind && scale.weigh(law, i, IF, words) == 1) {
                    return true;
                }
            }
            return false;
        }
    }

    /**
     * Rings, sales, deaths and YEARS, one by one, by ORDERS and by DRAWS. Each of the four answers what
     * it tells, or what it is REFUSED by; without a log it can't be undone.
     */
    private static final class Deeds {
        private final Asker asker;
        private final Scale scale = new Scale();
        private final int[] words = new int[ORDER_WORDS];
        private int latest = NONE;
        private int drawing = 0;
        int done = 0;

        Deeds(Asker itsAsker) {
            asker = itsAsker;
        }

        int ringBell(Suburb suburb, Log log, int person, int house) {
            if (!suburb.hasPerson(person) || !suburb.hasHouse(house)) {
                return NO_SUCH;
            }
            if (!suburb.lives(person) || suburb.leftOf(person, house) < 1) {
                return CANNOT_BE;
            }
            note(log, RING, suburb.ledger);
            boolean opens = asker.opensTo(suburb, person, house);
            int tiring = asker.tiring(suburb, person, house);
            suburb.ledger.used[slot(person, house)]++;
            suburb.ledger.weary[house] = Math.min(suburb.ledger.weary[house] + tiring, 99);
            return opens ? 1 : 0;
        }

        int sellRing(Suburb suburb, Log log, int from, int to, int house) {
            if (from == to) {
                return BAD_NUMBER;
            }
            if (!suburb.hasPerson(from) || !suburb.hasPerson(to) || !suburb.hasHouse(house)) {
                return NO_SUCH;
            }
            if (suburb.leftOf(from, house) < 1 || !canBuy(suburb, from, to, house)) {
                return CANNOT_BE;
            }
            note(log, SELL, suburb.ledger);
            int price = asker.price(suburb, from, to, house);
            Ledger ledger = suburb.ledger;
            ledger.rights[slot(from, house)]--;
            ledger.rights[slot(to, house)]++;
            ledger.purse[to] -= price;
            ledger.purse[from] = Math.min(ledger.purse[from] + price, MOST_PURSE);
            return price;
        }

        /** Whether a sale can be, whatever is LEFT to who sells. */
        boolean canBuy(Suburb suburb, int from, int to, int house) {
            return suburb.lives(from) && suburb.lives(to)
                && suburb.rightsOf(to, house) < MOST_RIGHTS
                && !asker.isBarred(suburb, from, to, house)
                && suburb.ledger.purse[to] >= asker.price(suburb, from, to, house);
        }

        int bury(Suburb suburb, Log log, int person) {
            if (!suburb.hasPerson(person)) {
                return NO_SUCH;
            }
            if (!suburb.lives(person)) {
                return CANNOT_BE;
            }
            Ledger ledger = suburb.ledger;
            note(log, DIE, ledger);
            int living = suburb.livingHeirs(person);
            for (int house = 0; house < suburb.houses; house++) {
                int own = ledger.rights[slot(person, house)];
                ledger.rights[slot(person, house)] = 0;
                ledger.used[slot(person, house)] = 0;
                if (living > 0) {
                    divide(suburb, person, house, own / living, own % living);
                }
            }
            ledger.dead |= 1 << person;
            return living;
        }

        private static void divide(Suburb suburb, int person, int house, int each, int more) {
            int[] rights = suburb.ledger.rights;
            int served = 0;
            for (int heir = 0; heir < suburb.people; heir++) {
                if (suburb.isLivingHeir(person, heir)) {
                    int share = served < more ? each + 1 : each;
                    rights[slot(heir, house)] = Math.min(rights[slot(heir, house)] + share, MOST_RIGHTS);
                    served++;
                }
            }
        }

        int turnYear(Suburb suburb, Log log) {
            Ledger ledger = suburb.ledger;
            if (ledger.year >= LAST_YEAR) {
                return CANNOT_BE;
            }
            note(log, PASS, ledger);
            for (int i = 0; i < ledger.used.length; i++) {
                ledger.used[i] = 0;
            }
            for (int house = 0; house < MOST_HOUSES; house++) {
                ledger.weary[house] = 0;
            }
            ledger.year++;
            return ledger.year;
        }

        private static void note(Log log, int kind, Ledger now) {
            if (log != null) {
                log.push(kind, now);
            }
        }

        /** Answers which CLAUSE of the ORDERS could not be, or NONE; done tells how many were run. */
        int run(Text orders, Suburb suburb, Log log) {
            done = 0;
            latest = NONE;
            for (int i = 0; i < orders.clauses; i++) {
                for (int time = 0; time < orders.times[i]; time++) {
                    setWords(suburb);
                    if (scale.weigh(orders, i, IF, words) != 1) {
                        continue;
                    }
                    int a = scale.weigh(orders, i, 0, words);
                    int b = scale.weigh(orders, i, 1, words);
                    int c = scale.weigh(orders, i, 2, words);
                    if (a == BROKEN || b == BROKEN || c == BROKEN) {
                        return i;
                    }
                    int told;
                    switch (orders.kind[i]) {
                        case RING:
                            told = ringBell(suburb, log, a, b);
                            latest = told;
                            break;
                        case SELL: told = sellRing(suburb, log, a, b, c); break;
                        case DIE: told = bury(suburb, log, a); break;
                        default: told = turnYear(suburb, log); break;
                    }
                    if (told < 0) {
                        return i;
                    }
                    done++;
                }
            }
            return NONE;
        }

        private void setWords(Suburb suburb) {
            words[ORDER_YEAR] = suburb.ledger.year;
            words[ORDER_DONE] = done;
            words[ORDER_LATEST] = latest;
            words[ORDER_LIVING] = suburb.livingPeople();
            for (int person = 0; person < MOST_PEOPLE; person++) {
                boolean known = suburb.hasPerson(person);
                words[ORDER_PURSE + person] = known ? suburb.ledger.purse[person] : NONE;
                words[ORDER_LEFT + person] = known ? suburb.allLeftOf(person) : NONE;
            }
            for (int house = 0; house < MOST_HOUSES; house++) {
                words[ORDER_WEARY + house] = suburb.hasHouse(house) ? suburb.ledger.weary[house] : NONE;
            }
        }

        /** GENERATIONS in the suburb itself: how often a HOUSE OPENED. */
        int live(Suburb suburb, int seed, int n) {
            drawing = seed;
            int opened = 0;
            for (int i = 0; i < n && suburb.ledger.year < LAST_YEAR; i++) {
                int person = draw(suburb.people);
                int house = draw(suburb.houses);
                int fate = draw(8);
                if (ringBell(suburb, null, person, house) == 1) {
                    opened++;
                }
                if (fate == 0) {
                    bury(suburb, null, person);
                } else if (fate == 1) {
                    turnYear(suburb, null);
                }
            }
            return opened;
        }

        private int draw(int among) {
            drawing = (int) (((long) drawing * 1103 + 12345) % 1_000_003);
            return among > 0 ? drawing % among : 0;
        }
    }

    /** VISITS, the EXCHANGE and the CHAIN. */
    private static final class Plans {
        private final int[] walkRow = new int[MOST_HOUSES];
        private int stepsAllowed = 0;
        private int fewestSteps = 0;
        final int[] visitRow = new int[MOST_HOUSES];
        int visited = 0;

        private final int[] mostWithGivers = new int[1 << MOST_PEOPLE];
        final int[] giver = new int[MOST_PEOPLE];

        // What a sale from one to another one costs, NONE if it can't be.
        final int[] sale = new int[MOST_PEOPLE * MOST_PEOPLE];
        private final int[] toGo = new int[MOST_PEOPLE];
        final int[] buyerRow = new int[MOST_PEOPLE];
        int buyers = 0;

        private static final int FAR = 1_000_000;
        // A price weighs more than all the sales of a CHAIN together.
        private static final int PRICE = 16;

        void findVisits(Suburb suburb, int person, int n) {
            stepsAllowed = n;
            visited = 0;
            fewestSteps = 0;
            if (suburb.hasPerson(person)) {
                walk(suburb, person, suburb.home[person], 0, 0, 0);
            }
        }

        // Rows are walked in their order, so the first of alike ones stays.
        private void walk(Suburb suburb, int person, int from, int steps, int seen, int depth) {
            if (depth > visited || (depth == visited && steps < fewestSteps)) {
                visited = depth;
                fewestSteps = steps;
                System.arraycopy(walkRow, 0, visitRow, 0, depth);
            }
            if (depth >= MOST_HOUSES) {
                return;
            }
            for (int house = 0; house < suburb.houses; house++) {
                int further = steps + stepsBetween(from, suburb.place[house]);
                if (!hasBit(seen, house) && suburb.leftOf(person, house) >= 1 && further <= stepsAllowed) {
                    walkRow[depth] = house;
                    walk(suburb, person, suburb.place[house], further, seen | 1 << house, depth + 1);
                }
            }
        }

        /**
         * Answers how many take part; the row is in giver then. One who takes no part is matched with
         * itself, so that each one gives just if it gets.
         */
        int findExchange(Suburb suburb) {
            int people = suburb.people;
            int all = (1 << people) - 1;
            mostWithGivers[all] = 0;
            for (int givers = all - 1; givers >= 0; givers--) {
                int person = Integer.bitCount(givers);
                int most = NONE;
                for (int other = 0; other < people; other++) {
                    most = Math.max(most, mostIfGives(suburb, givers, person, other));
                }
                mostWithGivers[givers] = most;
            }
            int givers = 0;
            for (int person = 0; person < people; person++) {
                int chosen = firstBestGiver(suburb, givers, person);
                giver[person] = chosen == person ? NO_GIVER : chosen;
                givers |= 1 << chosen;
            }
            return mostWithGivers[0];
        }

        private int firstBestGiver(Suburb suburb, int givers, int person) {
            for (int other = 0; other < suburb.people; other++) {
                if (other != person
                    && mostIfGives(suburb, givers, person, other) == mostWithGivers[givers]) {
                    return other;
                }
            }
            return person;
        }

        private int mostIfGives(Suburb suburb, int givers, int person, int other) {
            if (hasBit(givers, other)) {
                return NONE;
            }
            int rest = mostWithGivers[givers | 1 << other];
            if (rest == NONE || person == other) {
                return rest;
            }
            return canGive(suburb, person, other) ? rest + 1 : NONE;
        }

        private static boolean canGive(Suburb suburb, int person, int other) {
            return suburb.lives(person) && suburb.lives(other)
                && suburb.leftOf(other, suburb.want[person]) >= 1;
        }

        /** Answers what the CHAIN costs, or NONE; who buys is in buyerRow then. */
        int findChain(int from, int to, int people) {
            for (int person = 0; person < people; person++) {
                toGo[person] = person == to ? 0 : FAR;
            }
            for (int round = 0; round < people; round++) {
                for (int person = 0; person < people; person++) {
                    for (int next = 0; next < people; next++) {
                        toGo[person] = Math.min(toGo[person], toGoBy(person, next));
                    }
                }
            }
            buyers = 0;
            if (toGo[from] >= FAR) {
                return NONE;
            }
            int seller = from;
            for (int i = 0; i < people && seller != to; i++) {
                seller = firstBestBuyer(seller, people);
                buyerRow[i] = seller;
                buyers++;
            }
            return toGo[from] / PRICE;
        }

        private int toGoBy(int person, int next) {
            int price = sale[person * MOST_PEOPLE + next];
            return price == NONE || toGo[next] >= FAR ? FAR : price * PRICE + 1 + toGo[next];
        }

        private int firstBestBuyer(int seller, int people) {
            for (int next = 0; next < people; next++) {
                if (toGoBy(seller, next) == toGo[seller]) {
                    return next;
                }
            }
            return seller;
        }
    }

    /** What is struck out, given out, kept, and how likely a HOUSE opens. */
    private static final class Shares {
        final int[] got = new int[MOST_PEOPLE];
        final int[] worth = new int[MOST_KEPT_YEARS];
        final int[] usedIn = new int[MOST_KEPT_YEARS];
        // By YEARS and rings: the most from that YEAR on with so many rings.
        private final int[] mostFrom = new int[(MOST_KEPT_YEARS + 1) * (MOST_KEPT + 1)];
        private final long[] chances = new long[MOST_OPENINGS + 1];

        /** AMENDED: who, as bits. */
        int struckOut(Suburb suburb, int house) {
            int best = (1 << suburb.people) - 1;
            int bearable = suburb.hasHouse(house) ? suburb.bears[house] : 0;
            for (int bits = best; bits >= 0; bits--) {
                int rest = 0;
                for (int person = 0; person < suburb.people; person++) {
                    rest += hasBit(bits, person) ? 0 : suburb.rightsOf(person, house);
                }
                if (rest <= bearable && Integer.bitCount(bits) <= Integer.bitCount(best)) {
                    best = bits;
                }
            }
            return best;
        }

        void giveOut(Suburb suburb, int house, int n) {
            for (int person = 0; person < MOST_PEOPLE; person++) {
                got[person] = 0;
            }
            for (int i = 0; i < n; i++) {
                int best = NONE;
                for (int person = 0; person < suburb.people; person++) {
                    int rights = suburb.rightsOf(person, house);
                    if (rights > 0 && (best == NONE
                        || rights * (got[best] + 1) > suburb.rightsOf(best, house) * (got[person] + 1))) {
                        best = person;
                    }
                }
                if (best == NONE) {
                    return;
                }
                got[best]++;
            }
        }

        /** KEPT, by what is in worth: the most; the row is in usedIn then. */
        int keepRings(int k, int n) {
            for (int rings = 0; rings <= k; rings++) {
                mostFrom[entry(n, rings)] = 0;
            }
            for (int year = n - 1; year >= 0; year--) {
                for (int rings = 0; rings <= k; rings++) {
                    int most = 0;
                    for (int now = 0; now <= rings; now++) {
                        most = Math.max(most, gain(year, now) + mostFrom[entry(year + 1, rings - now)]);
                    }
                    mostFrom[entry(year, rings)] = most;
                }
            }
            int rings = k;
            for (int year = 0; year < n; year++) {
                usedIn[year] = firstBestUse(year, rings);
                rings -= usedIn[year];
            }
            return mostFrom[entry(0, k)];
        }

        private int firstBestUse(int year, int rings) {
            for (int now = 0; now < rings; now++) {
                if (gain(year, now) + mostFrom[entry(year + 1, rings - now)] == mostFrom[entry(year, rings)]) {
                    return now;
                }
            }
            return rings;
        }

        private int gain(int year, int rings) {
            // Rings beyond what the first is WORTH are for 0.
            int paid = Math.min(rings, worth[year]);
            return paid * worth[year] - paid * (paid - 1) / 2;
        }

        private static int entry(int year, int rings) {
            return year * (MOST_KEPT + 1) + rings;
        }

        /**
         * LIKELY. A first ring that opens leaves one time fewer to go, one that does not as many: both
         * parts are cut.
         */
        long chance(int k, int n, int sleep) {
            chances[0] = WHOLE_CHANCE;
            for (int times = 1; times <= k; times++) {
                chances[times] = 0;
            }
            for (int ring = 0; ring < n; ring++) {
                for (int times = k; times >= 1; times--) {
                    chances[times] = chances[times] * sleep / 10 + chances[times - 1] * (10 - sleep) / 10;
                }
            }
            return chances[k];
        }
    }
}
