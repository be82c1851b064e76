/** A market in which a bargain is a clasp, and what one is passes across. */
public final class ClaspedFair {
    public static final int NONE = -1;

    private static final int TRAITS = 5;
    private static final int MOST_PEOPLE = 12;
    private static final int MOST_HORSES = 10;
    private static final int MOST_TRAIT = 999;
    private static final int MOST_PURSE = 9999;
    private static final int MOST_WORTH = 999;
    private static final int MOST_SPIRIT = 9;
    private static final int MOST_GRIP = 9;
    private static final int LAST_DAY = 9999;
    private static final int LAST_TOLD_DAY = 999;
    private static final int DAYS_AT_ONCE = 60;

    private static final int BARE = 0;
    private static final int GLOVED = 1;
    private static final int SLUNG = 2;

    private static final int BOOK_LINES = 150;
    private static final int BOOK_WIDTH = 4;
    private static final int BOOK_SOLD = 0;
    private static final int BOOK_SHAKEN = 1;
    private static final int BOOK_PASSED = 2;
    private static final int BOOK_HELD = 3;

    private static final int TEXT_LAW = 0;
    private static final int TEXT_FAIR = 1;
    private static final int TEXT_HABITS = 2;
    private static final int TEXT_KIN = 3;
    private static final int TEXT_LINES = 16;
    private static final int LINE_WIDTH = 5;
    private static final int TAPE_BYTES = 400;
    private static final int FEED_BYTES = 20;
    private static final int MOST_OPEN = 8;

    private static final int FAULT_CANT_STAND = 1;
    private static final int FAULT_BEYOND = 2;
    private static final int FAULT_TOO_MANY = 3;

    private static final int UNDONE_AT_MOST = 6;
    private static final int SURE_TO_HOLD = 500;
    private static final int THOUSAND = 1000;

    private final World now = new World();
    private final World kept = new World();
    private final Market thought = new Market();
    private final Past past = new Past();
    private final Tape tape = new Tape();
    private final Reader reader = new Reader(tape);
    private final Trader trader = new Trader(now);
    private final Kinship kinship = new Kinship();
    private final Puzzles puzzles = new Puzzles();
    private boolean isKept;

    public ClaspedFair() {
    }

    public int state(int v) {
        int was = now.market.draws;
        now.market.draws = v;
        past.forget();
        return was;
    }

    public int person(int purse, int traits) {
        Market market = now.market;
        if (market.people >= MOST_PEOPLE || !isWithin(purse, 0, MOST_PURSE) || !isWithin(traits, 0, MOST_TRAIT)) {
            return NONE;
        }
        past.forget();
        return market.addPerson(purse, traits);
    }

    public int horse(int owner, int worth, int spirit) {
        Market market = now.market;
        if (market.horses >= MOST_HORSES || !market.isPerson(owner)) {
            return NONE;
        }
        if (!isWithin(worth, 0, MOST_WORTH) || !isWithin(spirit, 0, MOST_SPIRIT)) {
            return NONE;
        }
        past.forget();
        return market.addHorse(owner, worth, spirit);
    }

    public boolean set(int what, int who, int v) {
        boolean isSet = what <= TRAITS ? setOfPerson(what, who, v) : setOfHorse(what, who, v);
        if (isSet) {
            past.forget();
        }
        return isSet;
    }

    private boolean setOfPerson(int what, int who, int v) {
        Market market = now.market;
        if (what < 0 || !market.isPerson(who)) {
            return false;
        }
        if (what < TRAITS && isWithin(v, 0, MOST_TRAIT)) {
            market.traits[who * TRAITS + what] = v;
            return true;
        }
        if (what == TRAITS && isWithin(v, 0, MOST_PURSE)) {
            market.purse[who] = v;
            return true;
        }
        return false;
    }

    private boolean setOfHorse(int what, int who, int v) {
        Market market = now.market;
        if (!market.isHorse(who)) {
            return false;
        }
        if (what == TRAITS + 1 && isWithin(v, 0, MOST_WORTH)) {
            market.worth[who] = v;
            return true;
        }
        if (what == TRAITS + 2 && isWithin(v, 0, MOST_SPIRIT)) {
            market.spirit[who] = v;
            return true;
        }
        return false;
    }

    public int buys(int buyer, int horse, int price, int grip) {
        if (!trader.canBuy(buyer, horse, price, grip)) {
            return NONE;
        }
        past.keep(now.market);
        return trader.shake(trader.sell());
    }

    public int clasp(int a, int b, int grip) {
        if (!trader.canClasp(a, b, grip)) {
            return NONE;
        }
        past.keep(now.market);
        trader.write(BOOK_SHAKEN, a, b);
        return trader.shake(0);
    }

    public boolean hand(int person, int v) {
        Market market = now.market;
        if (!market.isPerson(person) || !isWithin(v, BARE, SLUNG) || market.hand[person] == v) {
            return false;
        }
        past.keep(market);
        market.hand[person] = v;
        return true;
    }

    public int days(int n) {
        if (!isWithin(n, 1, DAYS_AT_ONCE) || now.market.day + n > LAST_DAY) {
            return NONE;
        }
        int bargains = 0;
        for (int i = 0; i < n; i++) {
            past.keep(now.market);
            bargains += trader.passDay();
        }
        return bargains;
    }

    public int feed(int a, int b, int c, int d, int e) {
        if (tape.length + FEED_BYTES > TAPE_BYTES) {
            return NONE;
        }
        tape.add(a);
        tape.add(b);
        tape.add(c);
        tape.add(d);
        tape.add(e);
        return tape.length;
    }

    public boolean end(int n) {
        if (n < 0 || n > tape.length) {
            return false;
        }
        tape.length = n;
        return true;
    }

    public int text(int k) {
        tape.scan();
        reader.begin();
        if (!isWithin(k, TEXT_LAW, TEXT_KIN) || !reader.reads(k, now.market.people, now.market.horses)) {
            return NONE;
        }
        Lines text = now.textOf(k);
        text.copyFrom(reader.lines);
        if (k == TEXT_FAIR || k == TEXT_HABITS) {
            past.forget();
        }
        return text.count;
    }

    public int fault(int what) {
        switch (what) {
            case 0:
                return reader.fault;
            case 1:
                return reader.faultPlace;
            default:
                return NONE;
        }
    }

    public int of(int person, int what) {
        Market market = now.market;
        if (!market.isPerson(person) || what < 0) {
            return NONE;
        }
        if (what < TRAITS) {
            return market.traitOf(person, what);
        }
        switch (what) {
            case TRAITS:
                return market.purse[person];
            case TRAITS + 1:
                return market.hand[person];
            case TRAITS + 2:
                return market.shook[person];
            case TRAITS + 3:
                return now.kinOf(person);
            default:
                return NONE;
        }
    }

    public int horseOf(int horse, int what) {
        Market market = now.market;
        if (!market.isHorse(horse)) {
            return NONE;
        }
        switch (what) {
            case 0:
                return market.owner[horse];
            case 1:
                return market.worth[horse];
            case 2:
                return market.spirit[horse];
            case 3:
                return market.sold[horse];
            default:
                return NONE;
        }
    }

    public int passes(int a, int b, int grip, int trait) {
        if (!areTwo(a, b) || !isWithin(grip, 1, MOST_GRIP) || !isWithin(trait, 0, TRAITS - 1)) {
            return NONE;
        }
        trader.meet(a, b, NONE, 0, grip);
        return trader.ask(Law.PASSES, a, b, trait);
    }

    public int holds(int a, int b, int grip) {
        if (!areTwo(a, b) || !isWithin(grip, 1, MOST_GRIP)) {
            return NONE;
        }
        trader.meet(a, b, NONE, 0, grip);
        return trader.ask(Law.HOLDS, b, a, 0);
    }

    public int asks(int buyer, int horse, int grip) {
        Market market = now.market;
        if (!market.isHorse(horse) || !areTwo(market.owner[horse], buyer) || !isWithin(grip, 1, MOST_GRIP)) {
            return NONE;
        }
        trader.meet(market.owner[horse], buyer, horse, 0, grip);
        return trader.ask(Law.ASKS, market.owner[horse], buyer, 0);
    }

    private boolean areTwo(int a, int b) {
        return now.market.isPerson(a) && now.market.isPerson(b) && a != b;
    }

    public int book(int i, int what) {
        if (i < 0 || i >= now.market.bookLines || !isWithin(what, 0, BOOK_WIDTH - 1)) {
            return NONE;
        }
        return now.pages[i * BOOK_WIDTH + what];
    }

    public int goes(int n, int what) {
        if (!isWithin(n, 1, DAYS_AT_ONCE) || !isWithin(what, 0, 3)) {
            return NONE;
        }
        thought.copyFrom(now.market);
        trader.think(thought);
        for (int i = 0; i < n; i++) {
            trader.passDay();
        }
        trader.act();
        switch (what) {
            case 0:
                return thought.passed;
            case 1:
                return thought.held;
            case 2:
                return thought.allPurses();
            default:
                return thought.allSold();
        }
    }

    public int would(int buyer, int horse, int price, int grip) {
        if (!trader.canBuy(buyer, horse, price, grip)) {
            return NONE - MOST_TRAIT;
        }
        thought.copyFrom(now.market);
        trader.think(thought);
        trader.shake(trader.sell());
        trader.act();
        return thought.traitOf(buyer, 0) - now.market.traitOf(buyer, 0);
    }

    public int told(int a, int b) {
        if (a == NONE) {
            return now.clasps.tell(NONE);
        }
        if (!isWithin(a, 0, MOST_PEOPLE - 1) || !isWithin(b, 0, MOST_PEOPLE - 1) || a == b) {
            return NONE;
        }
        return now.clasps.tell(a * MOST_PEOPLE + b);
    }

    public int came(int a, int b) {
        if (a == NONE) {
            return puzzles.oddOnes(now.clasps);
        }
        if (!isWithin(a, 0, MOST_PEOPLE - 1) || !isWithin(b, NONE, MOST_PEOPLE - 1)) {
            return NONE;
        }
        return b == NONE ? puzzles.reached(now.clasps, a) : puzzles.claspTo(now.clasps, a, b);
    }

    public int number(int v) {
        return now.numbers.tell(v);
    }

    public int could() {
        return puzzles.couldShake(now.numbers) ? 1 : 0;
    }

    public int ring(int n) {
        return isWithin(n, 0, Puzzles.MOST_RING) ? puzzles.ringWays(n) : NONE;
    }

    public int pairs(int what) {
        int people = now.market.people;
        if (what != 0 && !isWithin(what - 10, 0, people - 1)) {
            return NONE;
        }
        kinship.take(now, people);
        return what == 0 ? kinship.mostPairs() : kinship.partnerOf(what - 10);
    }

    public int walk(int what) {
        if (!isWithin(what, 0, 1)) {
            return NONE;
        }
        kinship.take(now, now.market.people);
        return what == 0 ? kinship.wayKind() : kinship.wayStart();
    }

    public int prices(int a, int b, int what) {
        if (!isWithin(a, 2, Puzzles.MOST_COIN) || !isWithin(b, 2, Puzzles.MOST_COIN) || !isWithin(what, 0, 1)) {
            return NONE;
        }
        if (puzzles.haveCommonPart(a, b)) {
            return NONE;
        }
        return what == 0 ? a * b - a - b : (a - 1) * (b - 1) / 2;
    }

    public int weight(int v) {
        return now.weights.tell(v);
    }

    public int balance(int v, int what) {
        if (what == 2) {
            return puzzles.weighedUpTo(now.weights);
        }
        if (!isWithin(what, 0, 1) || !isWithin(v, 0, Puzzles.MOST_WEIGHED)) {
            return NONE;
        }
        return puzzles.canWeigh(now.weights, 0, v, what == 0) ? 1 : 0;
    }

    public int cold(int person, int n) {
        if (!now.market.isPerson(person) || !isWithin(n, NONE, Kinship.MOST_COLD_DAYS)) {
            return NONE;
        }
        kinship.take(now, now.market.people);
        return n == NONE ? kinship.coldDays(person) : Integer.bitCount(kinship.spread(person, n));
    }

    public int alike(int a, int b) {
        Market market = now.market;
        if (!market.isPerson(a)) {
            return NONE;
        }
        if (b == NONE) {
            return market.nearestTo(a);
        }
        return market.isPerson(b) ? market.apart(a, b) : NONE;
    }

    public int herd(int v) {
        return now.herds.tell(v);
    }

    public int pens(int k, int what) {
        if (!isWithin(k, 1, Puzzles.MOST_PENS) || !isWithin(what, 0, 1)) {
            return NONE;
        }
        puzzles.fillPens(now.herds, k);
        return what == 0 ? puzzles.fullest : puzzles.level;
    }

    public int left(int person, int what) {
        if (!now.market.isPerson(person)) {
            return NONE;
        }
        switch (what) {
            case 0:
                return now.market.mostTraitOf(person);
            case 1:
                return now.market.traitsLed(person);
            default:
                return NONE;
        }
    }

    public int signs(int n) {
        return isWithin(n, 1, Puzzles.MOST_FINGERS) ? puzzles.fingerRows(n) : NONE;
    }

    public int row(int v) {
        return now.rows.tell(v);
    }

    public int game(int what) {
        return isWithin(what, 0, 2) ? puzzles.goodTurn(now.rows, what) : NONE;
    }

    public boolean undo() {
        if (past.count == 0) {
            return false;
        }
        past.takeBack(now.market);
        return true;
    }

    public boolean image(boolean taken) {
        if (taken) {
            kept.copyFrom(now);
            isKept = true;
            return true;
        }
        if (!isKept) {
            return false;
        }
        now.copyFrom(kept);
        past.forget();
        return true;
    }

    public int look(int what) {
        Market market = now.market;
        switch (what) {
            case 0:
                return market.people;
            case 1:
                return market.horses;
            case 2:
                return market.passed;
            case 3:
                return market.held;
            case 4:
                return market.day;
            case 5:
                return market.bookLines;
            case 6:
                return market.draws;
            case 7:
            case 8:
            case 9:
            case 10:
                return now.textOf(what - 7).count;
            case 11:
                return past.count;
            default:
                return NONE;
        }
    }

    private static boolean isWithin(int v, int least, int most) {
        return v >= least && v <= most;
    }

    /** All that is and was told: what THE IMAGE keeps. */
    private static final class World {
        private final Market market = new Market();
        /** Beyond the market's bookLines stands what was undone. */
        private final int[] pages = new int[BOOK_LINES * BOOK_WIDTH];
        private final Lines law = new Lines(TAPE_BYTES);
        private final Lines fair = new Lines(0);
        private final Lines habits = new Lines(0);
        private final Lines kin = new Lines(0);
        private final Told clasps = new Told(16, 0, MOST_PEOPLE * MOST_PEOPLE - 1);
        private final Told numbers = new Told(Puzzles.MOST_NUMBERS, 0, 8);
        private final Told weights = new Told(5, 1, 200);
        private final Told herds = new Told(7, 1, 30);
        private final Told rows = new Told(6, 1, Puzzles.MOST_ROW);

        void copyFrom(World other) {
            market.copyFrom(other.market);
            System.arraycopy(other.pages, 0, pages, 0, pages.length);
            law.copyFrom(other.law);
            fair.copyFrom(other.fair);
            habits.copyFrom(other.habits);
            kin.copyFrom(other.kin);
            clasps.copyFrom(other.clasps);
            numbers.copyFrom(other.numbers);
            weights.copyFrom(other.weights);
            herds.copyFrom(other.herds);
            rows.copyFrom(other.rows);
        }

        Lines textOf(int k) {
            switch (k) {
                case TEXT_LAW:
                    return law;
                case TEXT_FAIR:
                    return fair;
                case TEXT_HABITS:
                    return habits;
                default:
                    return kin;
            }
        }

        /** The set of one's kin. */
        int kinOf(int person) {
            int kinSet = 0;
            for (int line = 0; line < kin.count; line++) {
                int a = kin.cell(line, 0);
                int b = kin.cell(line, 1);
                if (a == person) {
                    kinSet |= 1 << b;
                } else if (b == person) {
                    kinSet |= 1 << a;
                }
            }
            return kinSet;
        }
    }

    /** PEOPLE, HORSES and how things stand: what an undoing gives back. */
    private static final class Market {
        private final int[] traits = new int[MOST_PEOPLE * TRAITS];
        private final int[] purse = new int[MOST_PEOPLE];
        private final int[] hand = new int[MOST_PEOPLE];
        private final int[] shook = new int[MOST_PEOPLE];
        private final int[] owner = new int[MOST_HORSES];
        private final int[] worth = new int[MOST_HORSES];
        private final int[] spirit = new int[MOST_HORSES];
        private final int[] sold = new int[MOST_HORSES];
        private int people;
        private int horses;
        private int passed;
        private int held;
        private int day;
        private int bookLines;
        private int draws;

        void copyFrom(Market other) {
            System.arraycopy(other.traits, 0, traits, 0, traits.length);
            System.arraycopy(other.purse, 0, purse, 0, MOST_PEOPLE);
            System.arraycopy(other.hand, 0, hand, 0, MOST_PEOPLE);
            System.arraycopy(other.shook, 0, shook, 0, MOST_PEOPLE);
            System.arraycopy(other.owner, 0, owner, 0, MOST_HORSES);
            System.arraycopy(other.worth, 0, worth, 0, MOST_HORSES);
            System.arraycopy(other.spirit, 0, spirit, 0, MOST_HORSES);
            System.arraycopy(other.sold, 0, sold, 0, MOST_HORSES);
            people = other.people;
            horses = other.horses;
            passed = other.passed;
            held = other.held;
            day = other.day;
            bookLines = other.bookLines;
            draws = other.draws;
        }

        boolean isPerson(int p) {
            return p >= 0 && p < people;
        }

        boolean isHorse(int h) {
            return h >= 0 && h < horses;
        }

        int traitOf(int person, int trait) {
            return traits[person * TRAITS + trait];
        }

        int addPerson(int money, int ofEach) {
            for (int t = 0; t < TRAITS; t++) {
                traits[people * TRAITS + t] = ofEach;
            }
            purse[people] = money;
            people++;
            return people - 1;
        }

        int addHorse(int whose, int itsWorth, int itsSpirit) {
            owner[horses] = whose;
            worth[horses] = itsWorth;
            spirit[horses] = itsSpirit;
            horses++;
            return horses - 1;
        }

        int allPurses() {
            int sum = 0;
            for (int p = 0; p < people; p++) {
                sum += purse[p];
            }
            return sum;
        }

        int allSold() {
            int sum = 0;
            for (int h = 0; h < horses; h++) {
                sum += sold[h];
            }
            return sum;
        }

        int apart(int a, int b) {
            int sum = 0;
            for (int t = 0; t < TRAITS; t++) {
                sum += Math.abs(traitOf(a, t) - traitOf(b, t));
            }
            return sum;
        }

        int nearestTo(int a) {
            int nearest = NONE;
            for (int p = 0; p < people; p++) {
                if (p != a && (nearest == NONE || apart(a, p) < apart(a, nearest))) {
                    nearest = p;
                }
            }
            return nearest;
        }

        int mostTraitOf(int person) {
            int most = 0;
            for (int t = 1; t < TRAITS; t++) {
                if (traitOf(person, t) > traitOf(person, most)) {
                    most = t;
                }
            }
            return most;
        }

        int traitsLed(int person) {
            int led = 0;
            for (int t = 0; t < TRAITS; t++) {
                if (leads(person, t)) {
                    led++;
                }
            }
            return led;
        }

        private boolean leads(int person, int trait) {
            for (int p = 0; p < people; p++) {
                if (p != person && traitOf(p, trait) >= traitOf(person, trait)) {
                    return false;
                }
            }
            return true;
        }
    }

    /** Numbers that are told for thought: so many at most, each within bounds. */
    private static final class Told {
        private final int[] value;
        private final int least;
        private final int most;
        private int count;

        Told(int size, int least, int most) {
            value = new int[size];
            this.least = least;
            this.most = most;
        }

        void copyFrom(Told other) {
            System.arraycopy(other.value, 0, value, 0, value.length);
            count = other.count;
        }

        /** How many are told then; NONE takes all of them away. */
        int tell(int v) {
            if (v == NONE) {
                count = 0;
                return 0;
            }
            if (v < least || v > most || count >= value.length) {
                return NONE;
            }
            value[count] = v;
            count++;
            return count;
        }
    }

    /** A TEXT as it was understood: lines of numbers, and for THE LAW the steps its lines point to. */
    private static final class Lines {
        private final int[] cells = new int[TEXT_LINES * LINE_WIDTH];
        private final int[] steps;
        private int count;
        private int stepCount;

        Lines(int mostSteps) {
            steps = new int[mostSteps];
        }

        void copyFrom(Lines other) {
            System.arraycopy(other.cells, 0, cells, 0, cells.length);
            count = other.count;
            stepCount = Math.min(other.stepCount, steps.length);
            System.arraycopy(other.steps, 0, steps, 0, stepCount);
        }

        int cell(int line, int what) {
            int at = line * LINE_WIDTH + what;
            return isWithin(at, 0, cells.length - 1) ? cells[at] : 0;
        }

        /** Puts a number into the line that is being written. */
        void put(int what, int v) {
            if (count < TEXT_LINES) {
                cells[count * LINE_WIDTH + what] = v;
            }
        }

        void addStep(int step) {
            if (stepCount < steps.length) {
                steps[stepCount] = step;
                stepCount++;
            }
        }
    }

    /** What THE LAW tells: its steps stand operand before operator and are worked off on a stack. */
    private static final class Law {
        private static final int PASSES = 0;
        private static final int HOLDS = 1;
        private static final int ASKS = 2;

        private static final int TRAIT = 0;
        private static final int OWN = 1;
        private static final int OTHER = 2;
        private static final int GRIP = 3;
        private static final int PRICE = 4;
        private static final int WORTH = 5;
        private static final int SPIRIT = 6;
        private static final int SHOOK = 7;
        private static final int PURSE = 8;
        private static final int KIN = 9;
        private static final int DAY = 10;
        private static final int GIVEN = 11;

        private static final int NUMBER = 11;
        private static final int PART = 12;
        private static final int PLUS = 13;
        private static final int MINUS = 14;
        private static final int TIMES = 15;
        private static final int LESS = 16;
        private static final int EQUAL = 17;
        private static final int MORE = 18;
        private static final int NOT = 19;
        private static final int AND = 20;
        private static final int OR = 21;
        /** A step is its kind and, so many times, the NUMBER it has. */
        private static final int KINDS = 32;

        /** Eight that are open leave two apiece behind, a comparison four: far below this. */
        private static final int DEEPEST = 64;

        private final Lines lines;
        private final int[] given = new int[GIVEN];
        private final int[] stack = new int[DEEPEST];

        Law(Lines lines) {
            this.lines = lines;
        }

        int tells(int word) {
            for (int line = 0; line < lines.count; line++) {
                if (lines.cell(line, 0) == word) {
                    int from = lines.cell(line, 1);
                    int when = lines.cell(line, 2);
                    int to = lines.cell(line, 3);
                    if (when == to || worked(when, to) != 0) {
                        return heldTo(word, worked(from, when));
                    }
                }
            }
            return heldTo(word, usual(word));
        }

        private int usual(int word) {
            switch (word) {
                case PASSES:
                    return 20 * given[GRIP];
                case HOLDS:
                    return 100 - 10 * given[SHOOK];
                default:
                    return given[WORTH] - 10 * given[GRIP];
            }
        }

        private static int heldTo(int word, int v) {
            return Math.max(0, Math.min(v, word == ASKS ? MOST_PURSE : THOUSAND));
        }

        private int worked(int from, int to) {
            int top = 0;
            int end = Math.min(to, lines.stepCount);
            for (int i = Math.max(0, from); i < end && top < DEEPEST; i++) {
                int kind = lines.steps[i] % KINDS;
                int number = lines.steps[i] / KINDS;
                if (kind < GIVEN) {
                    stack[top] = given[kind];
                    top++;
                } else if (kind == NUMBER) {
                    stack[top] = number;
                    top++;
                } else if (kind == PART) {
                    if (top > 0 && number != 0) {
                        stack[top - 1] /= number;
                    }
                } else if (kind == NOT) {
                    if (top > 0) {
                        stack[top - 1] = 1 - stack[top - 1];
                    }
                } else if (top > 1) {
                    top--;
                    stack[top - 1] = joined(kind, stack[top - 1], stack[top]);
                }
            }
            return stack[0];
        }

        private static int joined(int kind, int a, int b) {
            switch (kind) {
                case PLUS:
                    return a + b;
                case MINUS:
                    return a - b;
                case TIMES:
                    return a * b;
                case LESS:
                    return a < b ? 1 : 0;
                case EQUAL:
                    return a == b ? 1 : 0;
                case MORE:
                    return a > b ? 1 : 0;
                case AND:
                    return a & b;
                default:
                    return a | b;
            }
        }
    }

    /** Lets DAYS go by and bargains be made, in the market that is or in one that is only thought of. */
    private static final class Trader {
        private final World world;
        private final Law law;
        private final int[] over = new int[TRAITS];
        private final int[] back = new int[TRAITS];
        private Market market;
        private boolean isThinking;
        private int first;
        private int second;
        private int horse;
        private int price;
        private int grip;

        Trader(World world) {
            this.world = world;
            law = new Law(world.law);
            market = world.market;
        }

        void think(Market thought) {
            market = thought;
            isThinking = true;
        }

        void act() {
            market = world.market;
            isThinking = false;
        }

        /** The first one has the horse, if there is one; the second one may hold on. */
        void meet(int one, int other, int itsHorse, int itsPrice, int itsGrip) {
            first = one;
            second = other;
            horse = itsHorse;
            price = itsPrice;
            grip = itsGrip;
        }

        /** What THE LAW tells of one of the two that meet. */
        int ask(int word, int one, int other, int trait) {
            int[] given = law.given;
            boolean hasTraits = word != Law.ASKS;
            boolean hasHorse = market.isHorse(horse);
            given[Law.TRAIT] = trait;
            given[Law.OWN] = hasTraits ? market.traitOf(one, trait) : 0;
            given[Law.OTHER] = hasTraits ? market.traitOf(other, trait) : 0;
            given[Law.GRIP] = grip;
            given[Law.PRICE] = price;
            given[Law.WORTH] = hasHorse ? market.worth[horse] : 0;
            given[Law.SPIRIT] = hasHorse ? market.spirit[horse] : 0;
            given[Law.SHOOK] = market.shook[one];
            given[Law.PURSE] = market.purse[one];
            given[Law.KIN] = world.kinOf(one) >> other & 1;
            given[Law.DAY] = market.day;
            return law.tells(word);
        }

        boolean canClasp(int a, int b, int itsGrip) {
            if (!market.isPerson(a) || !market.isPerson(b) || a == b || !isWithin(itsGrip, 1, MOST_GRIP)) {
                return false;
            }
            meet(a, b, NONE, 0, itsGrip);
            return !isAnyHand(SLUNG);
        }

        boolean canBuy(int buyer, int itsHorse, int itsPrice, int itsGrip) {
            if (!market.isPerson(buyer) || !market.isHorse(itsHorse)) {
                return false;
            }
            int owner = market.owner[itsHorse];
            if (!market.isPerson(owner) || owner == buyer) {
                return false;
            }
            if (!isWithin(itsPrice, 0, market.purse[buyer]) || !isWithin(itsGrip, 1, MOST_GRIP)) {
                return false;
            }
            meet(owner, buyer, itsHorse, itsPrice, itsGrip);
            return !isAnyHand(SLUNG) && itsPrice >= ask(Law.ASKS, first, second, 0);
        }

        private boolean isAnyHand(int how) {
            return market.hand[first] == how || market.hand[second] == how;
        }

        /** The horse for the price: how much of it came to the owner's purse. */
        int sell() {
            int comes = Math.min(price, MOST_PURSE - market.purse[first]);
            market.purse[second] -= price;
            market.purse[first] += comes;
            market.owner[horse] = second;
            market.sold[horse]++;
            write(BOOK_SOLD, second, price);
            return comes;
        }

        /** The clasp of the two that meet: how much passed, and stayed. */
        int shake(int paid) {
            market.shook[first]++;
            market.shook[second]++;
            if (isAnyHand(GLOVED)) {
                return 0;
            }
            int all = passTraits();
            market.passed += all;
            if (all > 0) {
                write(BOOK_PASSED, first, all);
            }
            if (!isHeldOn()) {
                return all;
            }
            giveBack(all, paid);
            write(BOOK_HELD, second, first);
            return 0;
        }

        private int passTraits() {
            int all = 0;
            for (int t = 0; t < TRAITS; t++) {
                int a = market.traitOf(first, t);
                int b = market.traitOf(second, t);
                int fromFirst = a * ask(Law.PASSES, first, second, t) / THOUSAND;
                int fromSecond = b * ask(Law.PASSES, second, first, t) / THOUSAND;
                // At most one of the two can lack room, so each may count on the whole of what the other gives.
                over[t] = Math.min(fromFirst, MOST_TRAIT - b + fromSecond);
                back[t] = Math.min(fromSecond, MOST_TRAIT - a + fromFirst);
                moveTrait(t, over[t] - back[t]);
                all += over[t] + back[t];
            }
            return all;
        }

        private void moveTrait(int t, int much) {
            market.traits[first * TRAITS + t] -= much;
            market.traits[second * TRAITS + t] += much;
        }

        private boolean isHeldOn() {
            int likely = ask(Law.HOLDS, second, first, 0);
            if (isThinking) {
                return likely >= SURE_TO_HOLD;
            }
            return likely > 0 && drawOfThousand() < likely;
        }

        private int drawOfThousand() {
            market.draws = 1664525 * market.draws + 1013904223;
            return (market.draws >>> 8) % THOUSAND;
        }

        private void giveBack(int all, int paid) {
            for (int t = 0; t < TRAITS; t++) {
                moveTrait(t, back[t] - over[t]);
            }
            market.passed -= all;
            market.purse[first] -= paid;
            market.purse[second] += paid;
            market.held++;
        }

        void write(int what, int who, int much) {
            if (isThinking || market.bookLines >= BOOK_LINES) {
                return;
            }
            int at = market.bookLines * BOOK_WIDTH;
            world.pages[at] = market.day;
            world.pages[at + 1] = what;
            world.pages[at + 2] = who;
            world.pages[at + 3] = much;
            market.bookLines++;
        }

        /** How many bargains the day had. */
        int passDay() {
            Lines habits = world.habits;
            for (int line = 0; line < habits.count; line++) {
                if (habits.cell(line, 0) == market.day) {
                    follow(habits, line);
                }
            }
            Lines fair = world.fair;
            int bargains = 0;
            for (int line = 0; line < fair.count; line++) {
                if (fair.cell(line, 0) == market.day
                        && canBuy(fair.cell(line, 1), fair.cell(line, 2), fair.cell(line, 3), fair.cell(line, 4))) {
                    shake(sell());
                    bargains++;
                }
            }
            market.day++;
            return bargains;
        }

        private void follow(Lines habits, int line) {
            int who = habits.cell(line, 2);
            int much = habits.cell(line, 4);
            if (!market.isPerson(who)) {
                return;
            }
            switch (habits.cell(line, 1)) {
                case Tape.GLOVE:
                    market.hand[who] = GLOVED;
                    break;
                case Tape.BARE_HAND:
                    market.hand[who] = BARE;
                    break;
                case Tape.SLING:
                    market.hand[who] = SLUNG;
                    break;
                case Tape.PAY:
                    market.purse[who] = Math.min(MOST_PURSE, market.purse[who] + much);
                    break;
                default:
                    cool(who, habits.cell(line, 3), much);
                    break;
            }
        }

        private void cool(int who, int trait, int much) {
            if (isWithin(trait, 0, TRAITS - 1)) {
                market.traits[who * TRAITS + trait] = Math.max(0, market.traitOf(who, trait) - much);
            }
        }
    }

    /** The markets before the latest things done, the oldest written over first. */
    private static final class Past {
        private final Market[] markets = new Market[UNDONE_AT_MOST];
        private int next;
        private int count;

        Past() {
            for (int i = 0; i < UNDONE_AT_MOST; i++) {
                markets[i] = new Market();
            }
        }

        void forget() {
            count = 0;
        }

        void keep(Market market) {
            markets[next].copyFrom(market);
            next = (next + 1) % UNDONE_AT_MOST;
            count = Math.min(count + 1, UNDONE_AT_MOST);
        }

        void takeBack(Market into) {
            next = (next + UNDONE_AT_MOST - 1) % UNDONE_AT_MOST;
            count--;
            into.copyFrom(markets[next]);
        }
    }

    /** The TAPE and the tokens in it. */
    private static final class Tape {
        /** A KEYWORD's kind is WORD and its place in this row. */
        private static final String WORDS = "trait own other grip price worth spirit shook purse kin day passes holds asks when or and not on person horse at glove bare sling pay cold ";

        /** A token's kind: a sign's own number, or one of these, or NUMBER and its value more. */
        private static final int END = 0;
        private static final int UNKNOWN = 1;
        private static final int WORD = 256;
        private static final int GRIP = WORD + 3;
        private static final int KIN = WORD + 9;
        private static final int DAY = WORD + 10;
        private static final int PASSES = WORD + 11;
        private static final int ASKS = WORD + 13;
        private static final int WHEN = WORD + 14;
        private static final int OR = WORD + 15;
        private static final int AND = WORD + 16;
        private static final int NOT = WORD + 17;
        private static final int ON = WORD + 18;
        private static final int PERSON = WORD + 19;
        private static final int HORSE = WORD + 20;
        private static final int AT = WORD + 21;
        private static final int GLOVE = WORD + 22;
        private static final int BARE_HAND = WORD + 23;
        private static final int SLING = WORD + 24;
        private static final int PAY = WORD + 25;
        private static final int COLD = WORD + 26;
        private static final int NUMBER = 1000;
        private static final int MOST_DIGITS = 4;

        private final byte[] bytes = new byte[TAPE_BYTES];
        private final int[] kinds = new int[TAPE_BYTES + 1];
        private final int[] places = new int[TAPE_BYTES + 1];
        private int length;

        void add(int four) {
            for (int shift = 24; shift >= 0 && length < TAPE_BYTES; shift -= 8) {
                bytes[length] = (byte) (four >> shift);
                length++;
            }
        }

        /** The whole TAPE becomes tokens, the last of them END; it is empty then. */
        void scan() {
            int tokens = 0;
            int at = 0;
            while (at < length) {
                int from = at;
                at++;
                if (isLetter(from)) {
                    while (at < length && isLetter(at)) {
                        at++;
                    }
                    put(tokens, wordKind(from, at), from);
                    tokens++;
                } else if (isDigit(from)) {
                    while (at < length && isDigit(at)) {
                        at++;
                    }
                    put(tokens, numberKind(from, at), from);
                    tokens++;
                } else if (bytes[from] != ' ' && bytes[from] != '\n') {
                    put(tokens, signKind(bytes[from]), from);
                    tokens++;
                }
            }
            put(tokens, END, length);
            length = 0;
        }

        private void put(int token, int kind, int place) {
            if (token <= TAPE_BYTES) {
                kinds[token] = kind;
                places[token] = place;
            }
        }

        private boolean isLetter(int at) {
            byte b = bytes[at];
            return b >= 'a' && b <= 'z' || b >= 'A' && b <= 'Z';
        }

        private boolean isDigit(int at) {
            return bytes[at] >= '0' && bytes[at] <= '9';
        }

        private int wordKind(int from, int to) {
            int word = 0;
            int at = from;
            boolean isSame = true;
            for (int i = 0; i < WORDS.length(); i++) {
                char c = WORDS.charAt(i);
                if (c != ' ') {
                    isSame = isSame && at < to && bytes[at] == c;
                    at++;
                } else if (isSame && at == to) {
                    return WORD + word;
                } else {
                    word++;
                    at = from;
                    isSame = true;
                }
            }
            return UNKNOWN;
        }

        private int numberKind(int from, int to) {
            if (to - from > MOST_DIGITS) {
                return UNKNOWN;
            }
            int value = 0;
            for (int i = from; i < to; i++) {
                value = 10 * value + bytes[i] - '0';
            }
            return NUMBER + value;
        }

        private static int signKind(int sign) {
            switch (sign) {
                case ';':
                case '+':
                case '-':
                case '*':
                case '/':
                case '(':
                case ')':
                case '<':
                case '=':
                case '>':
                    return sign;
                default:
                    return UNKNOWN;
            }
        }
    }

    /** Understands the tokens of the TAPE as the lines of a TEXT, up to the first FAULT. */
    private static final class Reader {
        private final Tape tape;
        private final Lines lines = new Lines(TAPE_BYTES);
        private int at;
        private int kind;
        private int fault;
        private int faultPlace = NONE;
        private int people;
        private int horses;

        Reader(Tape tape) {
            this.tape = tape;
        }

        void begin() {
            at = 0;
            kind = tape.kinds[0];
            fault = 0;
            faultPlace = NONE;
            lines.count = 0;
            lines.stepCount = 0;
        }

        boolean reads(int k, int ofPeople, int ofHorses) {
            people = ofPeople;
            horses = ofHorses;
            // The 17th line is a fault of its own, so no line comes after it.
            for (int line = 0; line <= TEXT_LINES && kind != Tape.END; line++) {
                boolean isRead = k == TEXT_LAW ? readsLaw()
                        : k == TEXT_FAIR ? readsFair()
                        : k == TEXT_HABITS ? readsHabit()
                        : readsKin();
                if (!isRead) {
                    return false;
                }
                lines.count++;
            }
            return true;
        }

        private void next() {
            if (at < TAPE_BYTES && kind != Tape.END) {
                at++;
                kind = tape.kinds[at];
            }
        }

        private boolean fail(int how) {
            fault = how;
            faultPlace = tape.places[at];
            return false;
        }

        private boolean passesOver(int expected) {
            if (kind != expected) {
                return fail(FAULT_CANT_STAND);
            }
            next();
            return true;
        }

        /** The KEYWORD with which a line begins, from the first to the last that may. */
        private boolean begins(int firstWord, int lastWord) {
            if (kind < firstWord || kind > lastWord) {
                return fail(FAULT_CANT_STAND);
            }
            if (lines.count >= TEXT_LINES) {
                return fail(FAULT_TOO_MANY);
            }
            next();
            return true;
        }

        private boolean takes(int what, int least, int most) {
            if (kind < Tape.NUMBER) {
                return fail(FAULT_CANT_STAND);
            }
            int value = kind - Tape.NUMBER;
            if (value < least || value > most) {
                return fail(FAULT_BEYOND);
            }
            lines.put(what, value);
            next();
            return true;
        }

        private boolean readsFair() {
            return begins(Tape.ON, Tape.ON) && takes(0, 0, LAST_TOLD_DAY)
                    && passesOver(Tape.PERSON) && takes(1, 0, people - 1)
                    && passesOver(Tape.HORSE) && takes(2, 0, horses - 1)
                    && passesOver(Tape.AT) && takes(3, 0, MOST_PURSE)
                    && passesOver(Tape.GRIP) && takes(4, 1, MOST_GRIP)
                    && passesOver(';');
        }

        private boolean readsHabit() {
            if (!begins(Tape.ON, Tape.ON) || !takes(0, 0, LAST_TOLD_DAY)) {
                return false;
            }
            int habit = kind;
            if (habit < Tape.GLOVE || habit > Tape.COLD) {
                return fail(FAULT_CANT_STAND);
            }
            next();
            lines.put(1, habit);
            if (!takes(2, 0, people - 1)) {
                return false;
            }
            if (habit == Tape.PAY && !takes(4, 1, 999)) {
                return false;
            }
            if (habit == Tape.COLD && !(takes(3, 0, TRAITS - 1) && takes(4, 1, 99))) {
                return false;
            }
            return passesOver(';');
        }

        private boolean readsKin() {
            if (!begins(Tape.PERSON, Tape.PERSON)) {
                return false;
            }
            int one = kind;
            if (!takes(0, 0, people - 1) || !passesOver(Tape.KIN)) {
                return false;
            }
            if (kind == one) {
                return fail(FAULT_BEYOND);
            }
            return takes(1, 0, people - 1) && passesOver(';');
        }

        private boolean readsLaw() {
            int word = kind - Tape.PASSES;
            if (!begins(Tape.PASSES, Tape.ASKS)) {
                return false;
            }
            lines.put(0, word);
            lines.put(1, lines.stepCount);
            if (!readsSum()) {
                return false;
            }
            lines.put(2, lines.stepCount);
            if (kind == Tape.WHEN) {
                next();
                if (!readsCondition(0)) {
                    return false;
                }
            }
            lines.put(3, lines.stepCount);
            return passesOver(';');
        }

        /** An operator waits for its second operand: the step of "and" comes before that of an "or" left of it. */
        private boolean readsCondition(int open) {
            boolean isAndWaiting = false;
            boolean isOrWaiting = false;
            for (int i = 0; i < TAPE_BYTES; i++) {
                if (!readsSingle(open)) {
                    return false;
                }
                if (isAndWaiting) {
                    lines.addStep(Law.AND);
                }
                isAndWaiting = kind == Tape.AND;
                if (!isAndWaiting) {
                    if (isOrWaiting) {
                        lines.addStep(Law.OR);
                    }
                    isOrWaiting = kind == Tape.OR;
                    if (!isOrWaiting) {
                        return true;
                    }
                }
                next();
            }
            return false;
        }

        private boolean readsSingle(int open) {
            boolean isNot = kind == Tape.NOT;
            if (isNot || kind == '(') {
                if (open >= MOST_OPEN) {
                    return fail(FAULT_TOO_MANY);
                }
                next();
                if (!isNot) {
                    return readsCondition(open + 1) && passesOver(')');
                }
                boolean isRead = readsSingle(open + 1);
                lines.addStep(Law.NOT);
                return isRead;
            }
            if (!readsSum()) {
                return false;
            }
            int sign = kind;
            if (sign != '<' && sign != '=' && sign != '>') {
                return fail(FAULT_CANT_STAND);
            }
            next();
            boolean isRead = readsSum();
            lines.addStep(sign == '<' ? Law.LESS : sign == '=' ? Law.EQUAL : Law.MORE);
            return isRead;
        }

        private boolean readsSum() {
            boolean isTimesWaiting = false;
            int waiting = 0;
            for (int i = 0; i < TAPE_BYTES; i++) {
                if (!readsUnit()) {
                    return false;
                }
                if (isTimesWaiting) {
                    lines.addStep(Law.TIMES);
                }
                if (!readsParts()) {
                    return false;
                }
                isTimesWaiting = kind == '*';
                if (!isTimesWaiting) {
                    if (waiting != 0) {
                        lines.addStep(waiting);
                    }
                    waiting = kind == '+' ? Law.PLUS : kind == '-' ? Law.MINUS : 0;
                    if (waiting == 0) {
                        return true;
                    }
                }
                next();
            }
            return false;
        }

        private boolean readsUnit() {
            if (kind >= Tape.NUMBER) {
                lines.addStep(Law.NUMBER + Law.KINDS * (kind - Tape.NUMBER));
            } else if (kind >= Tape.WORD && kind <= Tape.DAY) {
                lines.addStep(kind - Tape.WORD);
            } else {
                return fail(FAULT_CANT_STAND);
            }
            next();
            return true;
        }

        private boolean readsParts() {
            for (int i = 0; i < TAPE_BYTES && kind == '/'; i++) {
                next();
                if (kind < Tape.NUMBER) {
                    return fail(FAULT_CANT_STAND);
                }
                if (kind == Tape.NUMBER) {
                    return fail(FAULT_BEYOND);
                }
                lines.addStep(Law.PART + Law.KINDS * (kind - Tape.NUMBER));
                next();
            }
            return true;
        }
    }

    /** Thoughts about who is kin, people as bits of a set. */
    private static final class Kinship {
        private static final int MOST_COLD_DAYS = 20;

        private final int[] kin = new int[MOST_PEOPLE];
        /** The most pairs in each set of people. */
        private final byte[] most = new byte[1 << MOST_PEOPLE];
        private int people;

        void take(World world, int ofPeople) {
            people = Math.min(ofPeople, MOST_PEOPLE);
            for (int p = 0; p < people; p++) {
                kin[p] = world.kinOf(p);
            }
        }

        int mostPairs() {
            int sets = 1 << people;
            for (int set = 1; set < sets; set++) {
                int p = Integer.numberOfTrailingZeros(set);
                int rest = set & set - 1;
                int best = most[rest];
                int others = rest & ~kin[p];
                int enough = Integer.bitCount(set) / 2;
                for (int q = p + 1; q < people && best < enough; q++) {
                    if ((others >> q & 1) == 1) {
                        best = Math.max(best, 1 + most[rest ^ 1 << q]);
                    }
                }
                most[set] = (byte) best;
            }
            return most[sets - 1];
        }

        int partnerOf(int person) {
            mostPairs();
            int set = (1 << people) - 1;
            for (int p = 0; p < people; p++) {
                if ((set >> p & 1) == 1) {
                    int q = partnerIn(set, p);
                    if (p == person || q == person) {
                        return p == person ? q : p;
                    }
                    set ^= 1 << p;
                    set ^= q == NONE ? 0 : 1 << q;
                }
            }
            return NONE;
        }

        /** The least one with whom the first of a set can be, so that the set still has its most pairs. */
        private int partnerIn(int set, int p) {
            for (int q = p + 1; q < people; q++) {
                boolean isFree = ((set & ~kin[p]) >> q & 1) == 1;
                if (isFree && 1 + most[set ^ 1 << p ^ 1 << q] == most[set]) {
                    return q;
                }
            }
            return NONE;
        }

        /** Who has the cold after so many days. */
        int spread(int person, int days) {
            int have = 1 << person;
            for (int d = 0; d < days; d++) {
                have |= kinOfAll(have);
            }
            return have;
        }

        int coldDays(int person) {
            int have = 1 << person;
            int days = 0;
            for (int d = 0; d < MOST_PEOPLE; d++) {
                int then = have | kinOfAll(have);
                if (then != have) {
                    days++;
                }
                have = then;
            }
            return days;
        }

        private int kinOfAll(int set) {
            int all = 0;
            for (int p = 0; p < people; p++) {
                if ((set >> p & 1) == 1) {
                    all |= kin[p];
                }
            }
            return all;
        }

        /** 2 for a walk that comes back, 1 for one that does not, 0 for none. */
        int wayKind() {
            int some = kinOfAll((1 << people) - 1);
            if (some == 0 || spread(Integer.numberOfTrailingZeros(some), MOST_PEOPLE) != some) {
                return 0;
            }
            int odd = oddKin();
            return odd == 0 ? 2 : Integer.bitCount(odd) == 2 ? 1 : 0;
        }

        int wayStart() {
            switch (wayKind()) {
                case 2:
                    return Integer.numberOfTrailingZeros(kinOfAll((1 << people) - 1));
                case 1:
                    return Integer.numberOfTrailingZeros(oddKin());
                default:
                    return NONE;
            }
        }

        private int oddKin() {
            int odd = 0;
            for (int p = 0; p < people; p++) {
                odd |= (Integer.bitCount(kin[p]) & 1) << p;
            }
            return odd;
        }
    }

    /** Thoughts about what is told for them alone. */
    private static final class Puzzles {
        private static final int MOST_RING = 24;
        private static final int MOST_COIN = 60;
        private static final int MOST_WEIGHED = 1000;
        private static final int MOST_PENS = 4;
        private static final int ABOVE_ALL_HERDS = 1000;
        private static final int MOST_FINGERS = 20;
        private static final int MOST_NUMBERS = 9;
        private static final int MOST_ROW = 20;
        private static final int PRIME = 1000000007;
        /** Of a row of so many hands the heap of stones that it is as good as. */
        private static final int[] HEAP = {0, 1, 2, 3, 1, 4, 3, 2, 1, 4, 2, 6, 4, 1, 2, 7, 1, 4, 3, 2, 1};

        private final int[] sorted = new int[MOST_NUMBERS];
        private final int[] pen = new int[MOST_PENS];
        private int fullest;
        private int level;

        int reached(Told clasps, int one) {
            int have = 1 << one;
            for (int i = 0; i < clasps.count; i++) {
                int both = bothOf(clasps.value[i]);
                if ((have & both) != 0) {
                    have |= both;
                }
            }
            return have;
        }

        int claspTo(Told clasps, int one, int other) {
            int have = 1 << one;
            for (int i = 0; i < clasps.count && one != other; i++) {
                int both = bothOf(clasps.value[i]);
                if ((have & both) != 0) {
                    have |= both;
                }
                if ((have >> other & 1) == 1) {
                    return i;
                }
            }
            return NONE;
        }

        int oddOnes(Told clasps) {
            int odd = 0;
            for (int i = 0; i < clasps.count; i++) {
                odd ^= bothOf(clasps.value[i]);
            }
            return odd;
        }

        private static int bothOf(int toldClasp) {
            return 1 << toldClasp / MOST_PEOPLE | 1 << toldClasp % MOST_PEOPLE;
        }

        /** The test of Erdos and Gallai. */
        boolean couldShake(Told numbers) {
            sortDown(numbers);
            int n = numbers.count;
            int sum = 0;
            for (int k = 1; k <= n; k++) {
                sum += sorted[k - 1];
                int room = k * (k - 1);
                for (int i = k; i < n; i++) {
                    room += Math.min(sorted[i], k);
                }
                if (sum > room) {
                    return false;
                }
            }
            return sum % 2 == 0;
        }

        private void sortDown(Told numbers) {
            for (int i = 0; i < numbers.count; i++) {
                int at = i;
                for (int j = i; j > 0 && sorted[j - 1] < numbers.value[i]; j--) {
                    sorted[j] = sorted[j - 1];
                    at = j - 1;
                }
                sorted[at] = numbers.value[i];
            }
        }

        int ringWays(int n) {
            if (n % 2 != 0) {
                return 0;
            }
            long ways = 1;
            for (int i = 0; i < n / 2; i++) {
                ways = ways * 2 * (2 * i + 1) / (i + 2);
            }
            return (int) (ways % PRIME);
        }

        boolean haveCommonPart(int a, int b) {
            for (int part = 2; part <= a; part++) {
                if (a % part == 0 && b % part == 0) {
                    return true;
                }
            }
            return false;
        }

        /** Each weight from the i-th on lies with what is weighed, across from it, or aside. */
        boolean canWeigh(Told weights, int i, int v, boolean onBoth) {
            if (i >= weights.count) {
                return v == 0;
            }
            return canWeigh(weights, i + 1, v, onBoth)
                    || canWeigh(weights, i + 1, v - weights.value[i], onBoth)
                    || onBoth && canWeigh(weights, i + 1, v + weights.value[i], true);
        }

        int weighedUpTo(Told weights) {
            for (int v = 1; v <= MOST_WEIGHED; v++) {
                if (!canWeigh(weights, 0, v, true)) {
                    return v - 1;
                }
            }
            return MOST_WEIGHED;
        }

        void fillPens(Told herds, int k) {
            fullest = ABOVE_ALL_HERDS;
            level = ABOVE_ALL_HERDS;
            for (int p = 0; p < MOST_PENS; p++) {
                pen[p] = 0;
            }
            share(herds, 0, k);
        }

        private void share(Told herds, int i, int k) {
            if (i >= herds.count) {
                compare(k);
                return;
            }
            // Empty pens are all alike: one of them is enough to try.
            boolean wasEmpty = false;
            for (int p = 0; p < k && !wasEmpty; p++) {
                wasEmpty = pen[p] == 0;
                pen[p] += herds.value[i];
                share(herds, i + 1, k);
                pen[p] -= herds.value[i];
            }
        }

        private void compare(int k) {
            int max = pen[0];
            int min = pen[0];
            for (int p = 1; p < k; p++) {
                max = Math.max(max, pen[p]);
                min = Math.min(min, pen[p]);
            }
            if (max < fullest || max == fullest && max - min < level) {
                fullest = max;
                level = max - min;
            }
        }

        /** Counts rows by how they end: with a finger down, with a lone one up, with more up. */
        int fingerRows(int n) {
            int down = 1;
            int lone = 0;
            int more = 0;
            for (int i = 0; i < n; i++) {
                int downThen = down + more;
                more += lone;
                lone = down;
                down = downThen;
            }
            return down + more;
        }

        /** Of the turn after which the heaps are even: the row, the place or how many. */
        int goodTurn(Told rows, int what) {
            int all = 0;
            for (int r = 0; r < rows.count; r++) {
                all ^= heapOf(rows.value[r]);
            }
            for (int r = 0; r < rows.count; r++) {
                int size = rows.value[r];
                int wanted = all ^ heapOf(size);
                for (int place = 0; place < size; place++) {
                    for (int many = 1; many <= 2 && place + many <= size; many++) {
                        if ((heapOf(place) ^ heapOf(size - place - many)) == wanted) {
                            return what == 0 ? r : what == 1 ? place : many;
                        }
                    }
                }
            }
            return NONE;
        }

        private static int heapOf(int hands) {
            return isWithin(hands, 0, MOST_ROW) ? HEAP[hands] : 0;
        }
    }
}
