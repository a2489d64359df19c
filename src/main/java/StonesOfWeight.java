/**
 * Old stones of weight: a book of them by days, the units they may have been made to, and what
 * speaks for or against a unit. README.md says how to use it.
 */
public final class StonesOfWeight {
    public static final int NONE = -1;

    private static final int NO_FACT = -100000;
    private static final int NO_SCORE = -1000000000;
    private static final long NO_SUM = -1000000000000L;
    private static final int NO_DRIFT = -100000;

    private static final int WEIGHT = 0;
    private static final int STUFF = 1;
    private static final int CHIPS = 2;
    private static final int LEAD = 3;
    private static final int TOWN = 4;
    private static final int FROM = 5;
    private static final int TO = 6;
    private static final int MARK = 7;
    private static final int OWNER = 8;
    private static final int IN = 9;
    private static final int SET = 10;
    private static final int FACTS = 11;
    private static final int[] FACT_LEAST = {1, 0, 0, 0, 0, -3000, -3000, 0, 0, 0, 0};
    private static final int[] FACT_MOST = {30000, 4, 3, 2000, 5, 1900, 1900, 60, 9, 1, 8};

    private static final int STONES = 32;
    private static final int ENTRIES = 400;
    private static final int LAST_DAY = 9999;
    private static final int TOWNS = 6;
    private static final int ALL_TOWNS = 63;
    private static final int ALL_STUFFS = 31;
    private static final int FIRST_YEAR = -3000;
    private static final int LAST_YEAR = 1900;
    private static final int SETS = 8;
    private static final int OWNERS = 9;
    private static final int IMAGES = 3;

    private static final int TAPE = 500;
    private static final int LINES = 16;
    private static final int TESTS = 4;
    private static final int DIGITS = 4;
    private static final String WEAR_KEYS = "stuff chips lead town mark owner age";
    private static final String WEAR_DEEDS = "more less stop";
    private static final String PROOF_KEYS = "many near mean chance tried place towns marks";
    private static final String PROOF_DEEDS = "sure likely open against";
    private static final int KEYS = 8;
    private static final int LESS = 1;
    private static final int STOP = 2;
    private static final int OPEN = 2;
    private static final int AGE_YEAR = 2000;
    private static final int LOW_LIMIT = -500;
    private static final int HIGH_LIMIT = 1000;

    private static final int LEAST_UNIT = 10;
    private static final int MOST_UNIT = 2000;
    private static final int REACH = 300;
    private static final int PAIR_REACH = 40;
    private static final int CERTAIN = 1000000000;
    private static final int PROOF_MOST = 9999;
    private static final int RATE_MOST = 12;
    private static final int LAXITY_MOST = 200;
    private static final int APART_MOST = 500;
    private static final int LAST_LACK = 5;

    private static final int ALL_CHOSEN = 0;
    private static final int OF_TOWN = 1;
    private static final int SINCE = 2;
    private static final int BEFORE = 3;
    private static final int OF_OWNER = 4;
    private static final int OF_SET = 5;

    private final State now = new State();
    private final State[] images = new State[IMAGES];
    private final Reader reader = new Reader(now.tape);
    private final Pile pile = new Pile();
    private final Search search = new Search();
    private final Odds odds = new Odds();
    private final int[] findings = new int[KEYS];

    public StonesOfWeight() {
    }

    public int stone(int weight, int stuff, int town) {
        return now.book.list(weight, stuff, town);
    }

    public boolean tell(int stone, int fact, int value) {
        return now.book.retell(stone, fact, value);
    }

    public boolean day(int day) {
        return now.book.turnTo(day);
    }

    public boolean view(int day) {
        return now.book.lookFrom(day);
    }

    public int fact(int stone, int fact) {
        return now.book.known(stone, fact);
    }

    public int entry(int k, int what) {
        return now.book.written(k, what);
    }

    public int feed(int a, int b, int c, int d, int e) {
        Tape tape = now.tape;
        if (!tape.hasRoom(20)) {
            return NONE;
        }
        tape.add(a);
        tape.add(b);
        tape.add(c);
        tape.add(d);
        tape.add(e);
        return tape.length;
    }

    public int end(int n) {
        return now.tape.cut(n) ? n : NONE;
    }

    public int text(boolean proof) {
        boolean sound = reader.read(proof);
        now.fault = reader.fault;
        now.place = reader.place;
        now.tape.cut(0);
        if (!sound) {
            return NONE;
        }
        Rules rules = proof ? now.proof : now.wear;
        rules.copyFrom(reader.rules);
        return rules.lines;
    }

    public int fault(int what) {
        switch (what) {
            case 0:
                return now.fault;
            case 1:
                return now.place;
            default:
                return NONE;
        }
    }

    public boolean choose(int towns, int stuffs, int y, int z, int marks) {
        return now.choice.change(towns, stuffs, y, z, marks);
    }

    public int span(int stone, int what) {
        if (!pile.takeAlone(now, stone)) {
            return NONE;
        }
        switch (what) {
            case 0:
                return pile.low[0];
            case 1:
                return pile.high[0];
            case 2:
                return now.choice.takes(now.book, stone) ? 1 : 0;
            default:
                return NONE;
        }
    }

    public int by(int stone, int unit, int what) {
        if (!isUnit(unit) || !pile.takeAlone(now, stone)) {
            return NONE;
        }
        switch (what) {
            case 0:
                return pile.offOf(0, unit);
            case 1:
                return pile.isNear(0, unit) ? 1 : 0;
            case 2:
                return pile.shortOf(0, unit);
            case 3:
                return pile.timesOf(0, unit);
            default:
                return NONE;
        }
    }

    public int score(int unit) {
        if (!isUnit(unit)) {
            return NO_SCORE;
        }
        pile.gather(now, ALL_CHOSEN, 0);
        return pile.scoreBy(unit);
    }

    public int best(int a, int b) {
        return isRange(a, b, REACH) ? bestAmong(ALL_CHOSEN, 0, a, b) : NONE;
    }

    public int peak(int a, int b, int k) {
        if (!isRange(a, b, REACH) || pile.gather(now, ALL_CHOSEN, 0) == 0) {
            return NONE;
        }
        search.scoreUnits(pile, a, b);
        return search.peakAt(k);
    }

    public int pair(int a, int b) {
        if (!isRange(a, b, PAIR_REACH) || a == b || pile.gather(now, ALL_CHOSEN, 0) == 0) {
            return NONE;
        }
        return search.bestPair(pile, a, b);
    }

    public long sum(int u, int v) {
        if (!isUnit(u) || !isUnit(v) || u >= v) {
            return NO_SUM;
        }
        pile.gather(now, ALL_CHOSEN, 0);
        return search.sumOfTwo(pile, u, v);
    }

    public int chance(int unit) {
        if (!isUnit(unit)) {
            return NONE;
        }
        pile.gather(now, ALL_CHOSEN, 0);
        return odds.ofNear(pile, unit, pile.nearBy(unit));
    }

    public int verdict(int unit, int a, int b) {
        if (!isRange(a, b, REACH) || unit < a || unit > b) {
            return NONE;
        }
        pile.gather(now, ALL_CHOSEN, 0);
        search.scoreUnits(pile, a, b);
        weighEvidence(unit, b - a + 1);
        Rules proof = now.proof;
        for (int line = 0; line < proof.lines; line++) {
            if (proof.holds(line, findings)) {
                return proof.deedOf(line);
            }
        }
        return OPEN;
    }

    public int set(int set, int unit, int what) {
        if (set < 1 || set > SETS || !isUnit(unit)) {
            return NONE;
        }
        pile.gather(now, OF_SET, set);
        switch (what) {
            case 0:
                return pile.many;
            case 1:
                return pile.doublesBy(unit);
            case 2:
                return pile.lacksBy(unit);
            case 3:
                return pile.greatestTimes(unit);
            default:
                return NONE;
        }
    }

    public int rate(int town, int other, int a, int b, int e) {
        if (!isTown(town) || !isTown(other) || town == other || e < 0 || e > LAXITY_MOST
                || !isRange(a, b, REACH)) {
            return NONE;
        }
        int u = bestAmong(OF_TOWN, town, a, b);
        int v = bestAmong(OF_TOWN, other, a, b);
        return u == NONE || v == NONE ? NONE : simplestRate(u, v, e);
    }

    public int drift(int year, int a, int b) {
        if (!isRange(a, b, REACH)) {
            return NO_DRIFT;
        }
        int late = bestAmong(SINCE, year, a, b);
        int early = bestAmong(BEFORE, year, a, b);
        return late == NONE || early == NONE ? NO_DRIFT : late - early;
    }

    public int owner(int owner, int unit, int what) {
        if (owner < 1 || owner > OWNERS || !isUnit(unit)) {
            return NONE;
        }
        pile.gather(now, OF_OWNER, owner);
        switch (what) {
            case 0:
                return pile.many;
            case 1:
                return pile.shortsBy(unit);
            case 2:
                return odds.ofShort(pile.many, pile.shortsBy(unit));
            default:
                return NONE;
        }
    }

    public int heap(int stone, int d) {
        if (d < 0 || d > APART_MOST) {
            return NONE;
        }
        pile.gather(now, ALL_CHOSEN, 0);
        int index = pile.indexOf(stone);
        return index == NONE ? NONE : pile.leastOfHeap(now.book, index, d);
    }

    public int anew(int a, int b) {
        if (!isRange(a, b, REACH) || pile.gather(now, ALL_CHOSEN, 0) == 0) {
            return NONE;
        }
        search.scoreUnits(pile, a, b);
        int most = NONE;
        int found = NONE;
        for (int i = 0; i < pile.many; i++) {
            int gain = search.worthOf(pile, i);
            if (gain > most) {
                most = gain;
                found = pile.numberOf(i);
            }
        }
        return found;
    }

    public int worth(int stone, int a, int b) {
        if (!isRange(a, b, REACH)) {
            return NONE;
        }
        pile.gather(now, ALL_CHOSEN, 0);
        int index = pile.indexOf(stone);
        if (index == NONE) {
            return NONE;
        }
        search.scoreUnits(pile, a, b);
        return search.worthOf(pile, index);
    }

    public int count(int what) {
        switch (what) {
            case 0:
                return now.book.seenStones;
            case 1:
                return pile.gather(now, ALL_CHOSEN, 0);
            case 2:
                return now.book.entries;
            case 3:
                return now.book.today;
            case 4:
                return now.book.seenDay;
            case 5:
                return now.wear.lines;
            case 6:
                return now.proof.lines;
            default:
                return what >= 10 && what < 10 + TOWNS ? pile.gather(now, OF_TOWN, what - 10) : NONE;
        }
    }

    public boolean image(int k) {
        if (k < 0 || k >= images.length) {
            return false;
        }
        State kept = images[k];
        if (kept == null) {
            kept = new State();
            images[k] = kept;
        }
        kept.copyFrom(now);
        return true;
    }

    public boolean again(int k) {
        if (k < 0 || k >= images.length) {
            return false;
        }
        State kept = images[k];
        if (kept == null) {
            return false;
        }
        now.copyFrom(kept);
        return true;
    }

    private static boolean isUnit(int unit) {
        return unit >= LEAST_UNIT && unit <= MOST_UNIT;
    }

    private static boolean isRange(int a, int b, int reach) {
        return isUnit(a) && isUnit(b) && a <= b && b - a <= reach;
    }

    private static boolean isTown(int town) {
        return town >= 0 && town < TOWNS;
    }

    private int bestAmong(int kind, int value, int a, int b) {
        if (pile.gather(now, kind, value) == 0) {
            return NONE;
        }
        search.scoreUnits(pile, a, b);
        return search.bestUnit();
    }

    /** By p + q, then by p, the first that fits is in least terms: what it could be cut down to fits too, and came before. */
    private static int simplestRate(int u, int v, int e) {
        for (int both = 2; both <= 2 * RATE_MOST; both++) {
            int least = Math.max(1, both - RATE_MOST);
            int most = Math.min(RATE_MOST, both - 1);
            for (int p = least; p <= most; p++) {
                int q = both - p;
                if (1000 * Math.abs(u * q - v * p) <= e * v * p) {
                    return 100 * p + q;
                }
            }
        }
        return NONE;
    }

    /** The findings stand in the order of PROOF_KEYS, by which the tests of a proof name them. */
    private void weighEvidence(int unit, int tries) {
        int many = pile.many;
        int divisor = unit * many;
        int near = pile.nearBy(unit);
        long byChance = odds.ofNear(pile, unit, near);
        long byTrials = Math.min(CERTAIN, byChance * tries);
        findings[0] = many;
        findings[1] = near;
        findings[2] = divisor == 0 ? 0 : pile.scoreBy(unit) * 1000 / divisor;
        findings[3] = (int) Math.min(PROOF_MOST, byChance / 1000);
        findings[4] = (int) Math.min(PROOF_MOST, byTrials / 1000);
        findings[5] = search.placeOf(unit);
        findings[6] = pile.townsNear(unit);
        findings[7] = pile.marksNear(unit);
    }

    /** All that is told: what an image keeps. */
    private static final class State {
        final Book book = new Book();
        final Tape tape = new Tape();
        final Rules wear = new Rules();
        final Rules proof = new Rules();
        final Choice choice = new Choice();
        int fault = 0;
        int place = NONE;

        void copyFrom(State other) {
            book.copyFrom(other.book);
            tape.copyFrom(other.tape);
            wear.copyFrom(other.wear);
            proof.copyFrom(other.proof);
            choice.copyFrom(other.choice);
            fault = other.fault;
            place = other.place;
        }
    }

    /** The stones' facts, as they are now and as the view has them, and the entries that led there. */
    private static final class Book {
        private final int[] facts = new int[STONES * FACTS];
        private final int[] seen = new int[STONES * FACTS];
        // A listing's entry tells its weight alone, so a view of an earlier day needs these beside it.
        private final int[] firstStuff = new int[STONES];
        private final int[] firstTown = new int[STONES];
        private final int[] entryDay = new int[ENTRIES];
        private final int[] entryStone = new int[ENTRIES];
        private final int[] entryFact = new int[ENTRIES];
        private final int[] entryValue = new int[ENTRIES];
        int stones = 0;
        int seenStones = 0;
        int entries = 0;
        int today = 0;
        int seenDay = NONE;

        int list(int weight, int stuff, int town) {
            if (stones >= STONES || entries >= ENTRIES || !inRange(WEIGHT, weight)
                    || !inRange(STUFF, stuff) || !inRange(TOWN, town)) {
                return NONE;
            }
            int stone = stones;
            stones++;
            firstStuff[stone] = stuff;
            firstTown[stone] = town;
            write(stone, NONE, weight);
            return stone;
        }

        boolean retell(int stone, int fact, int value) {
            if (stone < 0 || stone >= stones || entries >= ENTRIES || !inRange(fact, value)
                    || !agrees(stone, fact, value)) {
                return false;
            }
            write(stone, fact, value);
            return true;
        }

        boolean turnTo(int day) {
            if (day < today || day > LAST_DAY) {
                return false;
            }
            today = day;
            return true;
        }

        boolean lookFrom(int day) {
            if (day != NONE && (day < 0 || day > today)) {
                return false;
            }
            seenDay = day;
            seenStones = 0;
            for (int k = 0; k < entries && k < ENTRIES; k++) {
                if (isSeen(entryDay[k])) {
                    see(k);
                }
            }
            return true;
        }

        int known(int stone, int fact) {
            if (stone < 0 || stone >= seenStones || stone >= STONES || fact < 0 || fact >= FACTS) {
                return NO_FACT;
            }
            return seen[stone * FACTS + fact];
        }

        int written(int k, int what) {
            if (k < 0 || k >= entries || k >= ENTRIES) {
                return NO_FACT;
            }
            switch (what) {
                case 0:
                    return entryDay[k];
                case 1:
                    return entryStone[k];
                case 2:
                    return entryFact[k];
                case 3:
                    return entryValue[k];
                default:
                    return NO_FACT;
            }
        }

        void copyFrom(Book other) {
            System.arraycopy(other.facts, 0, facts, 0, STONES * FACTS);
            System.arraycopy(other.seen, 0, seen, 0, STONES * FACTS);
            System.arraycopy(other.firstStuff, 0, firstStuff, 0, STONES);
            System.arraycopy(other.firstTown, 0, firstTown, 0, STONES);
            System.arraycopy(other.entryDay, 0, entryDay, 0, ENTRIES);
            System.arraycopy(other.entryStone, 0, entryStone, 0, ENTRIES);
            System.arraycopy(other.entryFact, 0, entryFact, 0, ENTRIES);
            System.arraycopy(other.entryValue, 0, entryValue, 0, ENTRIES);
            stones = other.stones;
            seenStones = other.seenStones;
            entries = other.entries;
            today = other.today;
            seenDay = other.seenDay;
        }

        private static boolean inRange(int fact, int value) {
            return fact >= 0 && fact < FACTS && value >= FACT_LEAST[fact] && value <= FACT_MOST[fact];
        }

        /** Whether a value goes with the stone's other facts of now. */
        private boolean agrees(int stone, int fact, int value) {
            int row = stone * FACTS;
            switch (fact) {
                case WEIGHT:
                    return facts[row + LEAD] < value;
                case LEAD:
                    return value < facts[row + WEIGHT];
                case FROM:
                    return value <= facts[row + TO];
                case TO:
                    return facts[row + FROM] <= value;
                default:
                    return true;
            }
        }

        private boolean isSeen(int day) {
            return seenDay == NONE || day <= seenDay;
        }

        private void write(int stone, int fact, int value) {
            int k = entries;
            if (k < 0 || k >= ENTRIES) {
                return;
            }
            entryDay[k] = today;
            entryStone[k] = stone;
            entryFact[k] = fact;
            entryValue[k] = value;
            entries++;
            apply(facts, k);
            if (isSeen(today)) {
                see(k);
            }
        }

        private void see(int k) {
            apply(seen, k);
            if (entryFact[k] == NONE) {
                seenStones = entryStone[k] + 1;
            }
        }

        private void apply(int[] rows, int k) {
            int stone = entryStone[k];
            int fact = entryFact[k];
            int row = stone * FACTS;
            if (fact >= 0 && fact < FACTS) {
                rows[row + fact] = entryValue[k];
                return;
            }
            for (int i = 0; i < FACTS; i++) {
                rows[row + i] = 0;
            }
            rows[row + WEIGHT] = entryValue[k];
            rows[row + STUFF] = firstStuff[stone];
            rows[row + TOWN] = firstTown[stone];
            rows[row + FROM] = FIRST_YEAR;
            rows[row + TO] = LAST_YEAR;
            rows[row + IN] = 1;
        }
    }

    private static final class Tape {
        private final byte[] bytes = new byte[TAPE];
        int length = 0;

        boolean hasRoom(int more) {
            return length + more <= TAPE;
        }

        void add(int number) {
            for (int shift = 24; shift >= 0 && length < TAPE; shift -= 8) {
                bytes[length] = (byte) (number >> shift);
                length++;
            }
        }

        boolean cut(int n) {
            if (n < 0 || n > length) {
                return false;
            }
            length = n;
            return true;
        }

        int byteAt(int place) {
            return place >= 0 && place < length && place < TAPE ? bytes[place] & 255 : NONE;
        }

        void copyFrom(Tape other) {
            System.arraycopy(other.bytes, 0, bytes, 0, TAPE);
            length = other.length;
        }
    }

    /** The lines of a text that has no fault. */
    private static final class Rules {
        int lines = 0;
        private final int[] deed = new int[LINES];
        private final int[] least = new int[LINES];
        private final int[] most = new int[LINES];
        private final int[] tests = new int[LINES];
        private final int[] testKey = new int[LINES * TESTS];
        private final int[] testSign = new int[LINES * TESTS];
        private final int[] testBound = new int[LINES * TESTS];
        private final boolean[] testNot = new boolean[LINES * TESTS];

        void setDeed(int line, int what, int from, int to) {
            if (!hasLine(line)) {
                return;
            }
            deed[line] = what;
            least[line] = from;
            most[line] = to;
        }

        void clearTests(int line) {
            if (hasLine(line)) {
                tests[line] = 0;
            }
        }

        void addTest(int line, boolean not, int key, int sign, int bound) {
            if (!hasLine(line) || tests[line] >= TESTS) {
                return;
            }
            int at = line * TESTS + tests[line];
            testNot[at] = not;
            testKey[at] = key;
            testSign[at] = sign;
            testBound[at] = bound;
            tests[line]++;
        }

        boolean holds(int line, int[] values) {
            if (!hasLine(line)) {
                return false;
            }
            for (int i = 0; i < tests[line] && i < TESTS; i++) {
                if (passes(line * TESTS + i, values) == testNot[line * TESTS + i]) {
                    return false;
                }
            }
            return true;
        }

        int deedOf(int line) {
            return hasLine(line) ? deed[line] : NONE;
        }

        int leastOf(int line) {
            return hasLine(line) ? least[line] : 0;
        }

        int mostOf(int line) {
            return hasLine(line) ? most[line] : 0;
        }

        void copyFrom(Rules other) {
            lines = other.lines;
            System.arraycopy(other.deed, 0, deed, 0, LINES);
            System.arraycopy(other.least, 0, least, 0, LINES);
            System.arraycopy(other.most, 0, most, 0, LINES);
            System.arraycopy(other.tests, 0, tests, 0, LINES);
            System.arraycopy(other.testKey, 0, testKey, 0, LINES * TESTS);
            System.arraycopy(other.testSign, 0, testSign, 0, LINES * TESTS);
            System.arraycopy(other.testBound, 0, testBound, 0, LINES * TESTS);
            System.arraycopy(other.testNot, 0, testNot, 0, LINES * TESTS);
        }

        private static boolean hasLine(int line) {
            return line >= 0 && line < LINES;
        }

        private boolean passes(int at, int[] values) {
            int key = testKey[at];
            if (key < 0 || key >= values.length) {
                return false;
            }
            switch (testSign[at]) {
                case '<':
                    return values[key] < testBound[at];
                case '>':
                    return values[key] > testBound[at];
                default:
                    return values[key] == testBound[at];
            }
        }
    }

    /** Reads a tape as a text of rules, or finds its fault. */
    private static final class Reader {
        private static final int END = 0;
        private static final int WORD = 1;
        private static final int NUMBER = 2;
        private static final int SIGN = 3;
        private static final int NO_TOKEN = 4;

        final Rules rules = new Rules();
        int fault = 0;
        int place = NONE;
        private final Tape tape;
        private boolean proof = false;
        private int kind = END;
        private int start = 0;
        private int stop = 0;

        Reader(Tape tape) {
            this.tape = tape;
        }

        boolean read(boolean asProof) {
            proof = asProof;
            fault = 0;
            place = NONE;
            rules.lines = 0;
            stop = 0;
            advance();
            int lines = 0;
            while (kind != END && lines < TAPE) {
                if (lines == LINES) {
                    remark(3, start);
                }
                if (!readLine(lines)) {
                    return false;
                }
                lines++;
            }
            rules.lines = Math.min(lines, LINES);
            return fault == 0;
        }

        private boolean readLine(int line) {
            rules.clearTests(line);
            if (wordIn("if") == 0 && !readTests(line)) {
                return false;
            }
            return readDeed(line) && pass(';');
        }

        private boolean readTests(int line) {
            int tests = 0;
            do {
                advance();
                if (tests == TESTS) {
                    remark(3, start);
                }
                if (!readTest(line)) {
                    return false;
                }
                tests++;
            } while (wordIn("and") == 0 && tests < TAPE);
            return pass(':');
        }

        private boolean readTest(int line) {
            boolean not = wordIn("not") == 0;
            if (not) {
                advance();
            }
            int key = wordIn(proof ? PROOF_KEYS : WEAR_KEYS);
            if (key == NONE) {
                return refuse();
            }
            advance();
            if (!isSign('<') && !isSign('>') && !isSign('=')) {
                return refuse();
            }
            int sign = tape.byteAt(start);
            advance();
            if (kind != NUMBER) {
                return refuse();
            }
            rules.addTest(line, not, key, sign, number());
            advance();
            return true;
        }

        private boolean readDeed(int line) {
            int deed = wordIn(proof ? PROOF_DEEDS : WEAR_DEEDS);
            if (deed == NONE) {
                return refuse();
            }
            advance();
            if (proof || deed == STOP) {
                rules.setDeed(line, deed, 0, 0);
                return true;
            }
            return readAmounts(line, deed);
        }

        private boolean readAmounts(int line, int deed) {
            if (kind != NUMBER) {
                return refuse();
            }
            int from = number();
            int to = from;
            advance();
            if (wordIn("to") == 0) {
                advance();
                if (kind != NUMBER) {
                    return refuse();
                }
                to = number();
                if (to < from) {
                    remark(2, start);
                }
                advance();
            }
            rules.setDeed(line, deed, from, to);
            return true;
        }

        private boolean pass(int sign) {
            if (!isSign(sign)) {
                return refuse();
            }
            advance();
            return true;
        }

        /** A fault of grammar goes before all others, wherever they are. */
        private boolean refuse() {
            fault = 1;
            place = start;
            return false;
        }

        /** Of the other faults the first one stays. */
        private void remark(int what, int where) {
            if (fault == 0) {
                fault = what;
                place = where;
            }
        }

        private boolean isSign(int sign) {
            return kind == SIGN && tape.byteAt(start) == sign;
        }

        /** Which word of a list, with blanks between them, the token is. */
        private int wordIn(String list) {
            if (kind != WORD) {
                return NONE;
            }
            int index = 0;
            int at = start;
            boolean alike = true;
            for (int i = 0; i <= list.length(); i++) {
                if (i == list.length() || list.charAt(i) == ' ') {
                    if (alike && at == stop) {
                        return index;
                    }
                    index++;
                    at = start;
                    alike = true;
                } else {
                    alike = alike && at < stop && tape.byteAt(at) == list.charAt(i);
                    at++;
                }
            }
            return NONE;
        }

        private int number() {
            int value = 0;
            for (int at = start; at < stop; at++) {
                value = value * 10 + tape.byteAt(at) - '0';
            }
            return value;
        }

        private void advance() {
            start = stop;
            while (start < TAPE && isBlank(tape.byteAt(start))) {
                start++;
            }
            int first = tape.byteAt(start);
            stop = start;
            if (isLetter(first)) {
                while (stop < TAPE && isLetter(tape.byteAt(stop))) {
                    stop++;
                }
                kind = WORD;
            } else if (isDigit(first)) {
                while (stop < TAPE && isDigit(tape.byteAt(stop))) {
                    stop++;
                }
                kind = stop - start <= DIGITS ? NUMBER : NO_TOKEN;
            } else if (first == NONE) {
                kind = END;
            } else {
                stop++;
                kind = isSignByte(first) ? SIGN : NO_TOKEN;
            }
        }

        private static boolean isBlank(int b) {
            return b == 10 || b == 32;
        }

        private static boolean isLetter(int b) {
            return b >= 'a' && b <= 'z';
        }

        private static boolean isDigit(int b) {
            return b >= '0' && b <= '9';
        }

        private static boolean isSignByte(int b) {
            return b == ':' || b == ';' || b == '<' || b == '>' || b == '=';
        }
    }

    private static final class Choice {
        private int towns = ALL_TOWNS;
        private int stuffs = ALL_STUFFS;
        private int firstYear = FIRST_YEAR;
        private int lastYear = LAST_YEAR;
        private int marks = 0;

        boolean change(int newTowns, int newStuffs, int y, int z, int newMarks) {
            if (y < FIRST_YEAR || z > LAST_YEAR || y > z || newMarks < 0 || newMarks > 2) {
                return false;
            }
            towns = newTowns & ALL_TOWNS;
            stuffs = newStuffs & ALL_STUFFS;
            firstYear = y;
            lastYear = z;
            marks = newMarks;
            return true;
        }

        boolean takes(Book book, int stone) {
            return book.known(stone, IN) == 1
                    && (towns >> book.known(stone, TOWN) & 1) == 1
                    && (stuffs >> book.known(stone, STUFF) & 1) == 1
                    && book.known(stone, FROM) <= lastYear
                    && book.known(stone, TO) >= firstYear
                    && takesMark(book.known(stone, MARK));
        }

        void copyFrom(Choice other) {
            towns = other.towns;
            stuffs = other.stuffs;
            firstYear = other.firstYear;
            lastYear = other.lastYear;
            marks = other.marks;
        }

        private boolean takesMark(int mark) {
            return marks == 0 || (marks == 1) == (mark > 0);
        }
    }

    /** The stones that a question is about, by their numbers, with the spans of the view's facts. */
    private static final class Pile {
        int many = 0;
        final int[] low = new int[STONES];
        final int[] high = new int[STONES];
        private final int[] number = new int[STONES];
        private final int[] mark = new int[STONES];
        private final int[] town = new int[STONES];
        private final int[] traits = new int[KEYS];

        int gather(State state, int kind, int value) {
            many = 0;
            for (int stone = 0; stone < state.book.seenStones; stone++) {
                if (belongs(state, stone, kind, value)) {
                    lay(state, stone);
                }
            }
            return many;
        }

        boolean takeAlone(State state, int stone) {
            many = 0;
            if (stone < 0 || stone >= state.book.seenStones) {
                return false;
            }
            lay(state, stone);
            return true;
        }

        int numberOf(int i) {
            return has(i) ? number[i] : NONE;
        }

        int indexOf(int stone) {
            for (int i = 0; i < many; i++) {
                if (numberOf(i) == stone) {
                    return i;
                }
            }
            return NONE;
        }

        int markOf(int i) {
            return has(i) ? mark[i] : 0;
        }

        int townOf(int i) {
            return has(i) ? town[i] : 0;
        }

        int offOf(int i, int unit) {
            return has(i) ? Measure.off(low[i], high[i], mark[i], unit) : 0;
        }

        int offIf(int i, int point, int unit) {
            return has(i) ? Measure.off(point, point, mark[i], unit) : 0;
        }

        boolean isNear(int i, int unit) {
            return 8 * offOf(i, unit) <= unit;
        }

        int timesOf(int i, int unit) {
            return has(i) ? Measure.times(low[i], high[i], mark[i], unit) : 0;
        }

        int shortOf(int i, int unit) {
            return has(i) ? Measure.shortage(high[i], mark[i], unit) : 0;
        }

        int luckyOf(int i, int unit) {
            return has(i) ? Measure.luckyPlaces(high[i] - low[i], unit) : 0;
        }

        int scoreBy(int unit) {
            int offs = 0;
            for (int i = 0; i < many; i++) {
                offs += offOf(i, unit);
            }
            return unit * many - 4 * offs;
        }

        int nearBy(int unit) {
            int near = 0;
            for (int i = 0; i < many; i++) {
                near += isNear(i, unit) ? 1 : 0;
            }
            return near;
        }

        int townsNear(int unit) {
            int towns = 0;
            for (int i = 0; i < many; i++) {
                towns |= isNear(i, unit) ? 1 << townOf(i) : 0;
            }
            return Integer.bitCount(towns);
        }

        int marksNear(int unit) {
            int marks = 0;
            for (int i = 0; i < many; i++) {
                marks += markOf(i) > 0 && isNear(i, unit) ? 1 : 0;
            }
            return marks;
        }

        int shortsBy(int unit) {
            int shorts = 0;
            for (int i = 0; i < many; i++) {
                shorts += 100 * shortOf(i, unit) > unit ? 1 : 0;
            }
            return shorts;
        }

        int doublesBy(int unit) {
            int doubles = 0;
            for (int i = 0; i < many; i++) {
                doubles += firstWithTimes(timesOf(i, unit), unit) < i ? 1 : 0;
            }
            return doubles;
        }

        int lacksBy(int unit) {
            int lacks = 0;
            int greatest = greatestTimes(unit);
            for (int bit = 0; bit <= LAST_LACK && 1 << bit <= greatest; bit++) {
                lacks |= firstWithTimes(1 << bit, unit) == many ? 1 << bit : 0;
            }
            return lacks;
        }

        int greatestTimes(int unit) {
            int greatest = 0;
            for (int i = 0; i < many; i++) {
                greatest = Math.max(greatest, timesOf(i, unit));
            }
            return greatest;
        }

        int leastOfHeap(Book book, int index, int apart) {
            long heap = 1L << index;
            long asked = 0;
            for (int round = 0; round < many; round++) {
                int next = firstIn(heap & ~asked);
                if (next == NONE) {
                    break;
                }
                asked |= 1L << next;
                for (int i = 0; i < many; i++) {
                    heap |= areTwins(book, next, i, apart) ? 1L << i : 0L;
                }
            }
            return numberOf(firstIn(heap));
        }

        private boolean has(int i) {
            return i >= 0 && i < many && i < STONES;
        }

        private static boolean belongs(State state, int stone, int kind, int value) {
            Book book = state.book;
            // A set has all its stones, chosen or not, as long as they are in.
            if (kind == OF_SET) {
                return book.known(stone, IN) == 1 && book.known(stone, SET) == value;
            }
            if (!state.choice.takes(book, stone)) {
                return false;
            }
            switch (kind) {
                case OF_TOWN:
                    return book.known(stone, TOWN) == value;
                case SINCE:
                    return book.known(stone, FROM) >= value;
                case BEFORE:
                    return book.known(stone, TO) < value;
                case OF_OWNER:
                    return book.known(stone, OWNER) == value;
                default:
                    return true;
            }
        }

        private void lay(State state, int stone) {
            int i = many;
            if (i < 0 || i >= STONES) {
                return;
            }
            Book book = state.book;
            number[i] = stone;
            mark[i] = book.known(stone, MARK);
            town[i] = book.known(stone, TOWN);
            many++;
            measure(book, state.wear, i);
        }

        private void measure(Book book, Rules wear, int i) {
            int stone = number[i];
            listTraits(book, stone);
            int least = 0;
            int most = 0;
            for (int line = 0; line < wear.lines; line++) {
                if (!wear.holds(line, traits)) {
                    continue;
                }
                int deed = wear.deedOf(line);
                if (deed == STOP) {
                    break;
                }
                least += deed == LESS ? -wear.mostOf(line) : wear.leastOf(line);
                most += deed == LESS ? -wear.leastOf(line) : wear.mostOf(line);
            }
            int base = book.known(stone, WEIGHT) - book.known(stone, LEAD);
            low[i] = Measure.whenNew(base, least);
            high[i] = Measure.whenNew(base, most);
        }

        /** In the order of WEAR_KEYS, by which the tests of a text of wear name them. */
        private void listTraits(Book book, int stone) {
            traits[0] = book.known(stone, STUFF);
            traits[1] = book.known(stone, CHIPS);
            traits[2] = book.known(stone, LEAD);
            traits[3] = book.known(stone, TOWN);
            traits[4] = book.known(stone, MARK);
            traits[5] = book.known(stone, OWNER);
            traits[6] = AGE_YEAR - book.known(stone, TO);
        }

        private int firstWithTimes(int times, int unit) {
            for (int i = 0; i < many; i++) {
                if (timesOf(i, unit) == times) {
                    return i;
                }
            }
            return many;
        }

        private static int firstIn(long bits) {
            for (int i = 0; i < STONES; i++) {
                if ((bits >> i & 1L) == 1L) {
                    return i;
                }
            }
            return NONE;
        }

        private boolean areTwins(Book book, int i, int j, int apart) {
            int one = numberOf(i);
            int other = numberOf(j);
            return book.known(one, TOWN) == book.known(other, TOWN)
                    && book.known(one, STUFF) == book.known(other, STUFF)
                    && book.known(one, MARK) == book.known(other, MARK)
                    && Math.abs(book.known(one, WEIGHT) - book.known(other, WEIGHT)) <= apart;
        }
    }

    /** How a span and a unit go together. */
    private static final class Measure {
        static int whenNew(int base, int thousandths) {
            int within = Math.max(LOW_LIMIT, Math.min(HIGH_LIMIT, thousandths));
            return Math.max(1, base + base * within / 1000);
        }

        static int off(int low, int high, int mark, int unit) {
            int point = times(low, high, mark, unit) * unit;
            int distance = point < low ? low - point : Math.max(0, point - high);
            return Math.min(unit, distance);
        }

        static int times(int low, int high, int mark, int unit) {
            if (mark > 0) {
                return mark;
            }
            int below = unit > 0 ? low / unit : 0;
            if (below < 1) {
                return 1;
            }
            int under = low - below * unit;
            int over = (below + 1) * unit - high;
            return under <= over || under == 0 ? below : below + 1;
        }

        static int shortage(int high, int mark, int unit) {
            int rounded = unit > 0 ? (2 * high + unit) / (2 * unit) : 0;
            int times = mark > 0 ? mark : Math.max(1, rounded);
            return Math.max(0, times * unit - high);
        }

        /** A start is lucky up to an eighth behind a multiple, and from where the span's end is an eighth ahead of the next. */
        static int luckyPlaces(int wide, int unit) {
            return Math.min(unit, 2 * (unit / 8) + 1 + wide);
        }
    }

    /** Units from one to another, held against one another by a pile. */
    private static final class Search {
        private int from = LEAST_UNIT;
        private int to = LEAST_UNIT;
        private final int[] scores = new int[REACH + 1];
        private final int[] scoresBeside = new int[REACH + 1];
        private final int[] peaks = new int[REACH + 1];
        private int peakCount = 0;
        private final int[] offs = new int[(PAIR_REACH + 1) * STONES];

        void scoreUnits(Pile pile, int a, int b) {
            from = a;
            to = Math.min(b, a + REACH);
            for (int unit = from; unit <= to; unit++) {
                scores[unit - from] = pile.scoreBy(unit);
            }
        }

        int bestUnit() {
            int best = from;
            for (int unit = from + 1; unit <= to; unit++) {
                if (compare(unit, best) >= 0) {
                    best = unit;
                }
            }
            return best;
        }

        int peakAt(int k) {
            listPeaks();
            for (int i = 0; i < peakCount && i < peaks.length; i++) {
                if (betterPeaks(peaks[i]) == k) {
                    return peaks[i];
                }
            }
            return NONE;
        }

        int placeOf(int unit) {
            if (!isPeak(unit)) {
                return PROOF_MOST;
            }
            listPeaks();
            return betterPeaks(unit);
        }

        int worthOf(Pile pile, int i) {
            if (i < 0 || i >= STONES) {
                return 0;
            }
            int low = pile.low[i];
            int high = pile.high[i];
            if (low == high) {
                return 0;
            }
            setAside(pile, i);
            return Math.abs(bestIf(pile, i, low) - bestIf(pile, i, high));
        }

        long sumOfTwo(Pile pile, int u, int v) {
            long offsByBoth = 0;
            for (int i = 0; i < pile.many; i++) {
                offsByBoth += Math.min(pile.offOf(i, u) * v, pile.offOf(i, v) * u);
            }
            return (long) u * v * pile.many - 4 * offsByBoth;
        }

        int bestPair(Pile pile, int a, int b) {
            listOffs(pile, a, b);
            int bestU = a;
            int bestV = a + 1;
            long most = sumOfListed(pile.many, a, bestU, bestV);
            for (int v = a + 2; v <= b; v++) {
                for (int u = a; u < v; u++) {
                    long next = sumOfListed(pile.many, a, u, v);
                    if (next * bestU * bestV >= most * u * v) {
                        most = next;
                        bestU = u;
                        bestV = v;
                    }
                }
            }
            return 10000 * bestV + bestU;
        }

        private boolean inReach(int unit) {
            return unit >= from && unit <= to && unit - from <= REACH;
        }

        /** By score / unit, without loss: each score times the other's unit. */
        private int compare(int unit, int other) {
            if (!inReach(unit) || !inReach(other)) {
                return 0;
            }
            return Long.compare((long) scores[unit - from] * other, (long) scores[other - from] * unit);
        }

        private boolean isBetter(int unit, int other) {
            int order = compare(unit, other);
            return order > 0 || order == 0 && unit > other;
        }

        private boolean isPeak(int unit) {
            return (unit == from || compare(unit, unit - 1) > 0)
                    && (unit == to || compare(unit, unit + 1) >= 0);
        }

        private void listPeaks() {
            peakCount = 0;
            for (int unit = from; unit <= to; unit++) {
                if (isPeak(unit) && peakCount < peaks.length) {
                    peaks[peakCount] = unit;
                    peakCount++;
                }
            }
        }

        private int betterPeaks(int unit) {
            int better = 0;
            for (int i = 0; i < peakCount && i < peaks.length; i++) {
                better += isBetter(peaks[i], unit) ? 1 : 0;
            }
            return better;
        }

        /** One stone's off alone changes with its span, so the scores without it serve for any. */
        private void setAside(Pile pile, int i) {
            for (int unit = from; unit <= to; unit++) {
                scoresBeside[unit - from] = scores[unit - from] + 4 * pile.offOf(i, unit);
            }
        }

        private int bestIf(Pile pile, int i, int point) {
            int best = from;
            long most = 0;
            for (int unit = from; unit <= to; unit++) {
                long score = scoresBeside[unit - from] - 4 * pile.offIf(i, point, unit);
                if (unit == from || score * best >= most * unit) {
                    best = unit;
                    most = score;
                }
            }
            return best;
        }

        private void listOffs(Pile pile, int a, int b) {
            for (int unit = a; unit <= b && unit - a <= PAIR_REACH; unit++) {
                for (int i = 0; i < pile.many && i < STONES; i++) {
                    offs[(unit - a) * STONES + i] = pile.offOf(i, unit);
                }
            }
        }

        private long sumOfListed(int many, int a, int u, int v) {
            if (u < a || v < a || u - a > PAIR_REACH || v - a > PAIR_REACH) {
                return 0;
            }
            int rowU = (u - a) * STONES;
            int rowV = (v - a) * STONES;
            long offsByBoth = 0;
            for (int i = 0; i < many && i < STONES; i++) {
                offsByBoth += Math.min(offs[rowU + i] * v, offs[rowV + i] * u);
            }
            return (long) u * v * many - 4 * offsByBoth;
        }
    }

    /** How often chance would give as many, in billionths. */
    private static final class Odds {
        private final long[] row = new long[STONES + 1];

        int ofNear(Pile pile, int unit, int near) {
            begin();
            for (int i = 0; i < pile.many; i++) {
                draw(pile.luckyOf(i, unit), unit);
            }
            return from(near);
        }

        int ofShort(int many, int shorts) {
            begin();
            for (int i = 0; i < many && i < STONES; i++) {
                draw(1, 2);
            }
            return from(shorts);
        }

        private void begin() {
            row[0] = CERTAIN;
            for (int j = 1; j <= STONES; j++) {
                row[j] = 0;
            }
        }

        /** Downwards, so that each place still has its old neighbour. */
        private void draw(int lucky, int of) {
            if (of < 1) {
                return;
            }
            for (int j = STONES; j > 0; j--) {
                row[j] = (row[j] * (of - lucky) + row[j - 1] * lucky) / of;
            }
            row[0] = row[0] * (of - lucky) / of;
        }

        private int from(int least) {
            long all = 0;
            for (int j = Math.max(0, least); j <= STONES; j++) {
                all += row[j];
            }
            return (int) all;
        }
    }
}
