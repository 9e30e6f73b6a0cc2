import java.util.Arrays;

/**
 * Streets that lead to streets, tallies of who came in and went out, and what it costs that as many
 * leave a street as came. The promises stand in ../shared/DOC.md; README.md says how to use it.
 */
public final class EvenTally {
    public static final int NONE = -1, BAD = -2, STATE = -3, FULL = -4;
    public static final long NO = Long.MIN_VALUE;

    // Ordinary answers of of(), told(), go() and wrong() may be below 0, so their refusals stand far off.
    private static final int FAR_NONE = -1000001, FAR_BAD = -1000002, FAR_STATE = -1000003;
    private static final int BY_NONE = -5, OTHER_KIND = -6, FAULT_FROM = -10;

    private static final int MOST_STREETS = 7, MOST_SIGNS = 100, MOST_TOWNS = 5, MOST_CLAUSES = 10;
    private static final int MOST_OPENED = 5, MOST_TALLIED = 9999, MOST_TOLD = 999, MOST_DAY = 99;
    private static final int MOST_NUMBER = 9, MOST_GOING = 9, MOST_WAYS = 20, MOST_STRAY = 6;

    private static final int STREET = 0, SUNDAY = 1, HELPED = 2, ONEWAY = 3, FREE = 4, WIDE = 5, SHUT = 6;
    private static final int KINDS = 7;
    private static final int[] ABOVE = {-1, STREET, STREET, STREET, SUNDAY, HELPED, ONEWAY};

    private static final int FINES = 0, STEPS = 1, ALLOWS = 2;

    private final State now;
    private final State kept;
    private boolean isKept;
    private final Reader reader;
    private final Balance balance;
    private final Routes routes;
    private final Actor actor;

    public EvenTally() {
        now = new State();
        kept = new State();
        isKept = false;
        reader = new Reader();
        balance = new Balance();
        routes = new Routes();
        actor = new Actor();
    }

    // ---- towns, streets

    public int feed(int sign) {
        if (sign < 0 || sign > 127) {
            return BAD;
        }
        if (now.signs >= MOST_SIGNS) {
            return FULL;
        }
        now.tape[now.signs] = sign;
        now.signs++;
        return now.signs;
    }

    public int town() {
        if (now.towns >= MOST_TOWNS) {
            return FULL;
        }
        int fault = reader.read(now.tape, now.signs);
        now.signs = 0;
        if (fault >= 0) {
            return FAULT_FROM - fault;
        }
        now.holding.copyFrom(reader.draft);
        now.towns++;
        return now.towns - 1;
    }

    public int day(int n) {
        if (n < 0 || n > MOST_DAY) {
            return BAD;
        }
        int was = now.today;
        now.today = n;
        return was;
    }

    public int street(int kind, int v) {
        if (kind < 0 || kind >= KINDS) {
            return NONE;
        }
        if (v < 0 || v > MOST_NUMBER) {
            return BAD;
        }
        if (now.streets >= MOST_STREETS) {
            return FULL;
        }
        return now.add(kind, v);
    }

    public int lead(int one, int other, boolean is) {
        int refusal = refusalOfTwo(one, other);
        if (refusal < 0) {
            return refusal;
        }
        int was = now.leads[one] >> other & 1;
        if (is) {
            now.leads[one] |= 1 << other;
        } else {
            now.leads[one] &= ~(1 << other);
        }
        return was;
    }

    public int of(int street, int what) {
        if (!now.has(street)) {
            return FAR_NONE;
        }
        switch (what) {
            case 0: return now.kind[street];
            case 1: return now.v[street];
            case 2: return now.in[street];
            case 3: return now.out[street];
            case 4: return now.uneven(street);
            case 5: return now.allowed(street);
            case 6: return now.fine(street);
            case 7: return now.step(street);
            case 8: return now.pays(street);
            case 9: return now.leads[street];
            case 10: return now.openFrom(street);
            default: return FAR_NONE;
        }
    }

    public int told(int what) {
        switch (what) {
            case 0: return now.today;
            case 1: return now.paysOfAll();
            case 2: return now.unevenOfAll();
            case 3: return now.paying();
            default: return FAR_NONE;
        }
    }

    // ---- goings

    public int go(int one, int other, int n) {
        if (!now.hasBoth(one, other)) {
            return FAR_NONE;
        }
        if (n < 1 || n > MOST_GOING) {
            return FAR_BAD;
        }
        if (!now.isOpen(one, other) || now.out[one] + n > MOST_TALLIED || now.in[other] + n > MOST_TALLIED) {
            return FAR_STATE;
        }
        now.out[one] += n;
        now.in[other] += n;
        return now.uneven(other);
    }

    public int tally(int street, int what, int n) {
        if (!now.has(street) || what < 0 || what > 1) {
            return NONE;
        }
        if (n < 0 || n > MOST_TALLIED) {
            return BAD;
        }
        int[] row = what == 0 ? now.in : now.out;
        int was = row[street];
        row[street] = n;
        return was;
    }

    // ---- cheapest

    public int cost(int what) {
        if (what < 0 || what > 1) {
            return NONE;
        }
        balance.load(now);
        return balance.solve(what == 1);
    }

    public int gate(int street) {
        if (!now.has(street)) {
            return NONE;
        }
        balance.load(now);
        int was = balance.solve(true);
        balance.allowed[street] = MOST_TALLIED;
        return was - balance.solve(true);
    }

    public int fresh(int one, int other) {
        int refusal = refusalOfTwo(one, other);
        if (refusal < 0) {
            return refusal;
        }
        balance.load(now);
        int was = balance.solve(true);
        balance.open[one] |= 1 << other;
        return was - balance.solve(true);
    }

    public int need(int one, int other) {
        int refusal = refusalOfTwo(one, other);
        if (refusal < 0) {
            return refusal;
        }
        balance.load(now);
        int was = balance.solve(true);
        balance.open[one] &= ~(1 << other);
        return balance.solve(true) - was;
    }

    // ---- ways, errands

    public int way(int one, int other) {
        if (!now.hasBoth(one, other)) {
            return NONE;
        }
        routes.load(now);
        return routes.cheapestWay(one, other);
    }

    public int errands(int street, int set, int k) {
        if (!now.has(street) || k < -1 || k >= MOST_STREETS) {
            return NONE;
        }
        if (set < 0 || set >= 1 << now.streets) {
            return BAD;
        }
        routes.load(now);
        routes.plan(street, set);
        return k < 0 ? routes.planned(street, set) : routes.inOrder(street, set, k);
    }

    public int stand() {
        routes.load(now);
        return routes.bestPlace(now.paying());
    }

    public long ways(int one, int other, int n) {
        if (!now.hasBoth(one, other) || n < 0 || n > MOST_WAYS) {
            return NO;
        }
        routes.load(now);
        return routes.walks(one, other, n);
    }

    public long stray(int one, int other, int n, int part) {
        if (!now.hasBoth(one, other) || n < 0 || n > MOST_STRAY || part < 0 || part > 1) {
            return NO;
        }
        routes.load(now);
        return routes.chance(one, other, n, part);
    }

    // ---- tallies told by hand

    public int tell(int in, int out) {
        if (in == -1) {
            now.tallies = 0;
            return 0;
        }
        if (in < 0 || in > MOST_TOLD || out < 0 || out > MOST_TOLD) {
            return BAD;
        }
        if (now.tallies >= MOST_STREETS) {
            return FULL;
        }
        now.toldIn[now.tallies] = in;
        now.toldOut[now.tallies] = out;
        now.tallies++;
        return now.tallies;
    }

    public int wrong(int what) {
        switch (what) {
            case 0: return now.off();
            case 1: return now.wrongOnes(now.toldIn, -now.off());
            case 2: return now.wrongOnes(now.toldOut, now.off());
            default: return FAR_NONE;
        }
    }

    // ---- acts, the image

    public int act(int street, int act, int x) {
        actor.forget();
        if (!now.has(street) || act < 0 || act >= Actor.ACTS) {
            return 0;
        }
        return actor.perform(now, street, act, x);
    }

    public int trace(int i) {
        if (i < 0 || i >= actor.ran || i >= Actor.MOST_TRACED) {
            return NONE;
        }
        return actor.traced[i];
    }

    public int as(int street, int k) {
        if (!now.has(street) || k < 0 || k >= KINDS) {
            return NONE;
        }
        return isUnder(now.kind[street], k) ? now.v[street] : OTHER_KIND;
    }

    public int image() {
        kept.copyFrom(now);
        isKept = true;
        return now.streets;
    }

    public int undo() {
        if (!isKept) {
            return STATE;
        }
        now.copyFrom(kept);
        return now.streets;
    }

    public int count(int what) {
        switch (what) {
            case 0: return now.streets;
            case 1: return now.towns;
            case 2: return now.tallies;
            case 3: return now.signs;
            case 4: return actor.ran;
            default: return NONE;
        }
    }

    /** Below 0 if there are not two streets of these numbers. */
    private int refusalOfTwo(int one, int other) {
        if (!now.hasBoth(one, other)) {
            return NONE;
        }
        return one == other ? BAD : 0;
    }

    private static boolean isUnder(int kind, int above) {
        int at = kind;
        for (int i = 0; i < KINDS && at >= 0 && at < KINDS; i++) {
            if (at == above) {
                return true;
            }
            at = ABOVE[at];
        }
        return false;
    }

    /** All that an image holds: streets, leads, the day, the tape, the town that holds, the tallies told. */
    private static final class State {
        int streets;
        final int[] kind;
        final int[] v;
        final int[] in;
        final int[] out;
        final int[] leads;
        int today;
        int signs;
        final int[] tape;
        int towns;
        final Town holding;
        int tallies;
        final int[] toldIn;
        final int[] toldOut;

        State() {
            kind = new int[MOST_STREETS];
            v = new int[MOST_STREETS];
            in = new int[MOST_STREETS];
            out = new int[MOST_STREETS];
            leads = new int[MOST_STREETS];
            tape = new int[MOST_SIGNS];
            holding = new Town();
            toldIn = new int[MOST_STREETS];
            toldOut = new int[MOST_STREETS];
        }

        void copyFrom(State other) {
            streets = other.streets;
            System.arraycopy(other.kind, 0, kind, 0, MOST_STREETS);
            System.arraycopy(other.v, 0, v, 0, MOST_STREETS);
            System.arraycopy(other.in, 0, in, 0, MOST_STREETS);
            System.arraycopy(other.out, 0, out, 0, MOST_STREETS);
            System.arraycopy(other.leads, 0, leads, 0, MOST_STREETS);
            today = other.today;
            signs = other.signs;
            System.arraycopy(other.tape, 0, tape, 0, MOST_SIGNS);
            towns = other.towns;
            holding.copyFrom(other.holding);
            tallies = other.tallies;
            System.arraycopy(other.toldIn, 0, toldIn, 0, MOST_STREETS);
            System.arraycopy(other.toldOut, 0, toldOut, 0, MOST_STREETS);
        }

        boolean has(int street) {
            return street >= 0 && street < streets;
        }

        boolean hasBoth(int one, int other) {
            return has(one) && has(other);
        }

        /** The caller sees to it that there is room. The place may hold what an undone street left. */
        int add(int newKind, int newV) {
            int street = streets;
            kind[street] = newKind;
            v[street] = newV;
            in[street] = 0;
            out[street] = 0;
            leads[street] = 0;
            streets++;
            return street;
        }

        int uneven(int street) {
            return in[street] - out[street];
        }

        int allowed(int street) {
            if (kind[street] == FREE) {
                return MOST_TALLIED;
            }
            int sum = holding.sum(ALLOWS, this, street);
            if (kind[street] == SUNDAY && today % 7 == 0) {
                sum += v[street];
            }
            return sum;
        }

        int fine(int street) {
            int sum = 10 + holding.sum(FINES, this, street);
            return isUnder(kind[street], HELPED) ? sum / 2 : sum;
        }

        int step(int street) {
            int sum = 1 + holding.sum(STEPS, this, street);
            return kind[street] == WIDE ? sum - 1 : sum;
        }

        int pays(int street) {
            int beyond = Math.abs(uneven(street)) - allowed(street);
            return beyond > 0 ? fine(street) * beyond : 0;
        }

        boolean isOpen(int one, int other) {
            if ((leads[one] >> other & 1) == 0) {
                return false;
            }
            if (other < one && isUnder(kind[one], ONEWAY)) {
                return false;
            }
            return !isShut(other);
        }

        private boolean isShut(int street) {
            int days = v[street] + 2;
            return kind[street] == SHUT && days > 0 && today % days == 0;
        }

        int openFrom(int one) {
            int bits = 0;
            for (int other = 0; other < streets; other++) {
                if (isOpen(one, other)) {
                    bits |= 1 << other;
                }
            }
            return bits;
        }

        int paysOfAll() {
            int sum = 0;
            for (int street = 0; street < streets; street++) {
                sum += pays(street);
            }
            return sum;
        }

        int unevenOfAll() {
            int sum = 0;
            for (int street = 0; street < streets; street++) {
                sum += uneven(street);
            }
            return sum;
        }

        int paying() {
            int bits = 0;
            for (int street = 0; street < streets; street++) {
                if (pays(street) > 0) {
                    bits |= 1 << street;
                }
            }
            return bits;
        }

        int off() {
            int sum = 0;
            for (int i = 0; i < tallies; i++) {
                sum += toldIn[i] - toldOut[i];
            }
            return sum;
        }

        /** Those of the row that, with the mend added, would be a number that can be told. */
        int wrongOnes(int[] row, int mend) {
            int bits = 0;
            for (int i = 0; i < tallies && mend != 0; i++) {
                int mended = row[i] + mend;
                if (mended >= 0 && mended <= MOST_TOLD) {
                    bits |= 1 << i;
                }
            }
            return bits;
        }
    }

    /** The clauses of a town, each with its condition as a row of codes, operands ahead of operators. */
    private static final class Town {
        private static final int NUMBER = 0, KIND = 1, UNEVEN = 2, DAY = 3, LEADS = 4, FACTS = 5;
        private static final int LESS = 0, SAME = 1, RELATIONS = 3;
        private static final int NUMBERS = 100;
        static final int NOT = -1, BOTH = -2, EITHER = -3;

        private int clauses;
        private final int[] word;
        private final int[] n;
        private final int[] from;
        private int codes;
        private final int[] code;
        private final int[] facts;

        Town() {
            word = new int[MOST_CLAUSES];
            n = new int[MOST_CLAUSES];
            from = new int[MOST_CLAUSES + 1];
            // A code comes of a sign of the tape at least, so that these are enough.
            code = new int[MOST_SIGNS];
            facts = new int[FACTS];
        }

        void copyFrom(Town other) {
            clauses = other.clauses;
            codes = other.codes;
            System.arraycopy(other.word, 0, word, 0, MOST_CLAUSES);
            System.arraycopy(other.n, 0, n, 0, MOST_CLAUSES);
            System.arraycopy(other.from, 0, from, 0, MOST_CLAUSES + 1);
            System.arraycopy(other.code, 0, code, 0, MOST_SIGNS);
        }

        void clear() {
            clauses = 0;
            codes = 0;
        }

        boolean isFull() {
            return clauses >= MOST_CLAUSES;
        }

        /** The clause's condition is what is put from here on. */
        void begin(int newWord, int newN) {
            if (isFull()) {
                return;
            }
            word[clauses] = newWord;
            n[clauses] = newN;
            clauses++;
            from[clauses] = codes;
        }

        void putTest(int fact, int relation, int number) {
            put((fact * RELATIONS + relation) * NUMBERS + number);
        }

        void put(int newCode) {
            if (codes < MOST_SIGNS) {
                code[codes] = newCode;
                codes++;
                from[clauses] = codes;
            }
        }

        /** What the clauses of the word that hold of the street come to. */
        int sum(int ofWord, State state, int street) {
            facts[NUMBER] = street;
            facts[KIND] = state.kind[street];
            facts[UNEVEN] = Math.abs(state.uneven(street));
            facts[DAY] = state.today % 7;
            facts[LEADS] = Integer.bitCount(state.leads[street]);
            int sum = 0;
            for (int i = 0; i < clauses; i++) {
                if (word[i] == ofWord && holds(from[i], from[i + 1])) {
                    sum += n[i];
                }
            }
            return sum;
        }

        /** The operands that wait are bits, the newest lowest; nesting of 5 keeps them under 16. */
        private boolean holds(int start, int end) {
            int waiting = 0;
            for (int i = start; i < end; i++) {
                int newest = waiting & 1;
                switch (code[i]) {
                    case NOT:
                        waiting ^= 1;
                        break;
                    case BOTH:
                        waiting = waiting >> 1 & (newest | ~1);
                        break;
                    case EITHER:
                        waiting = waiting >> 1 | newest;
                        break;
                    default:
                        waiting = waiting << 1 | (passes(code[i]) ? 1 : 0);
                }
            }
            return (waiting & 1) == 1;
        }

        private boolean passes(int test) {
            int fact = test / (RELATIONS * NUMBERS);
            if (fact < 0 || fact >= FACTS) {
                return false;
            }
            int number = test % NUMBERS;
            switch (test / NUMBERS % RELATIONS) {
                case LESS: return facts[fact] < number;
                case SAME: return facts[fact] == number;
                default: return facts[fact] > number;
            }
        }
    }

    /**
     * Reads the tape. The place goes on only past a sign with which a town can go on, so that, where
     * reading fails, the place is the fault.
     */
    private static final class Reader {
        // In the order in which a town numbers facts and relations.
        private static final String FACT_SIGNS = "skudl", RELATION_SIGNS = "<=>";

        final Town draft;
        private final int[] tape;
        private int size;
        private int place;
        private int number;

        Reader() {
            tape = new int[MOST_SIGNS];
            draft = new Town();
        }

        /** The fault, or -1: then the draft is the town. */
        int read(int[] itsTape, int itsSize) {
            System.arraycopy(itsTape, 0, tape, 0, MOST_SIGNS);
            size = itsSize;
            place = 0;
            draft.clear();
            for (int i = 0; i < MOST_CLAUSES; i++) {
                if (!readHead() || !readEither(0)) {
                    return place;
                }
                if (place == size) {
                    return -1;
                }
                if (draft.isFull() || !take(';')) {
                    return place;
                }
            }
            return place;
        }

        private boolean readHead() {
            if (take('f')) {
                return readRest("ine", FINES);
            }
            if (take('s')) {
                return readRest("tep", STEPS);
            }
            return take('a') && readRest("llow", ALLOWS);
        }

        private boolean readRest(String letters, int word) {
            for (int i = 0; i < letters.length(); i++) {
                if (!take(letters.charAt(i))) {
                    return false;
                }
            }
            if (!take(' ') || !readNumber() || !take(' ')) {
                return false;
            }
            draft.begin(word, number);
            return true;
        }

        private boolean readEither(int opened) {
            if (!readBoth(opened)) {
                return false;
            }
            for (int i = 0; i < MOST_SIGNS && take('|'); i++) {
                if (!readBoth(opened)) {
                    return false;
                }
                draft.put(Town.EITHER);
            }
            return true;
        }

        private boolean readBoth(int opened) {
            if (!readPart(opened)) {
                return false;
            }
            for (int i = 0; i < MOST_SIGNS && take('&'); i++) {
                if (!readPart(opened)) {
                    return false;
                }
                draft.put(Town.BOTH);
            }
            return true;
        }

        private boolean readPart(int opened) {
            int inside = opened;
            while (inside < MOST_OPENED && take('!')) {
                inside++;
            }
            boolean isRead;
            if (inside < MOST_OPENED && take('(')) {
                isRead = readEither(inside + 1) && take(')');
            } else {
                isRead = readTest();
            }
            for (int i = opened; i < inside; i++) {
                draft.put(Town.NOT);
            }
            return isRead;
        }

        private boolean readTest() {
            int fact = takeOneOf(FACT_SIGNS);
            if (fact < 0) {
                return false;
            }
            int relation = takeOneOf(RELATION_SIGNS);
            if (relation < 0 || !readNumber()) {
                return false;
            }
            draft.putTest(fact, relation, number);
            return true;
        }

        private boolean readNumber() {
            int first = digit();
            if (first < 0) {
                return false;
            }
            place++;
            number = first;
            int second = digit();
            if (first > 0 && second >= 0) {
                place++;
                number = first * 10 + second;
            }
            return true;
        }

        private int digit() {
            if (place >= size || tape[place] < '0' || tape[place] > '9') {
                return -1;
            }
            return tape[place] - '0';
        }

        private int takeOneOf(String signs) {
            for (int i = 0; i < signs.length(); i++) {
                if (take(signs.charAt(i))) {
                    return i;
                }
            }
            return -1;
        }

        private boolean take(int sign) {
            if (place >= size || tape[place] != sign) {
                return false;
            }
            place++;
            return true;
        }
    }

    /**
     * The cheapest goings, as a flow: each street sends what it has too many, and gets what it has too
     * few, by open leads or by the hub. What goes from a street to the hub stays in it as uneven, what
     * comes from the hub stays missing: up to allowed for nothing, beyond that for the fine.
     */
    private static final class Balance {
        private static final int HUB = MOST_STREETS, NODES = MOST_STREETS + 1;
        // Two a lead, and two for each of the four edges between a street and the hub.
        private static final int MOST_EDGES = 2 * MOST_STREETS * (MOST_STREETS - 1) + 8 * MOST_STREETS;
        private static final int NO_BOUND = 1000000, UNREACHED = 1000000000, MOST_ROUNDS = 1000000;

        private int streets;
        final int[] open;
        final int[] allowed;
        private final int[] uneven;
        private final int[] fine;
        private final int[] step;
        private int edges;
        private final int[] from;
        private final int[] to;
        private final int[] room;
        private final int[] price;
        private final int[] excess;
        private final int[] reached;
        private final int[] by;

        Balance() {
            open = new int[MOST_STREETS];
            allowed = new int[MOST_STREETS];
            uneven = new int[MOST_STREETS];
            fine = new int[MOST_STREETS];
            step = new int[MOST_STREETS];
            from = new int[MOST_EDGES];
            to = new int[MOST_EDGES];
            room = new int[MOST_EDGES];
            price = new int[MOST_EDGES];
            excess = new int[NODES];
            reached = new int[NODES];
            by = new int[NODES];
        }

        void load(State state) {
            streets = state.streets;
            for (int i = 0; i < streets; i++) {
                open[i] = state.openFrom(i);
                allowed[i] = state.allowed(i);
                uneven[i] = state.uneven(i);
                fine[i] = state.fine(i);
                step[i] = state.step(i);
            }
        }

        /** The least cost of goings so that nobody pays, or, paying, of goings and fines together. */
        int solve(boolean paying) {
            build(paying);
            int sum = 0;
            for (int i = 0; i < MOST_ROUNDS && isUnsettled(); i++) {
                search();
                int end = nearest();
                if (end < 0) {
                    return BY_NONE;
                }
                sum += reached[end] * send(end);
            }
            return sum;
        }

        private void build(boolean paying) {
            edges = 0;
            Arrays.fill(excess, 0);
            for (int i = 0; i < streets; i++) {
                excess[i] = uneven[i];
                excess[HUB] -= uneven[i];
                join(i, HUB, allowed[i], 0);
                join(HUB, i, allowed[i], 0);
                if (paying) {
                    join(i, HUB, NO_BOUND, fine[i]);
                    join(HUB, i, NO_BOUND, fine[i]);
                }
                for (int j = 0; j < streets; j++) {
                    if ((open[i] >> j & 1) == 1) {
                        join(i, j, NO_BOUND, step[i]);
                    }
                }
            }
        }

        /** An edge and, behind it, the one that takes its flow back. */
        private void join(int one, int other, int itsRoom, int itsPrice) {
            if (edges + 2 > MOST_EDGES) {
                return;
            }
            putEdge(one, other, itsRoom, itsPrice);
            putEdge(other, one, 0, -itsPrice);
        }

        private void putEdge(int one, int other, int itsRoom, int itsPrice) {
            from[edges] = one;
            to[edges] = other;
            room[edges] = itsRoom;
            price[edges] = itsPrice;
            edges++;
        }

        private boolean isUnsettled() {
            for (int node = 0; node < NODES; node++) {
                if (excess[node] > 0) {
                    return true;
                }
            }
            return false;
        }

        /** Taken flow has a price below 0, so that a node may be bettered more than once. */
        private void search() {
            for (int node = 0; node < NODES; node++) {
                reached[node] = excess[node] > 0 ? 0 : UNREACHED;
                by[node] = -1;
            }
            boolean better = true;
            for (int round = 0; round < NODES && better; round++) {
                better = false;
                for (int e = 0; e < edges; e++) {
                    int start = reached[from[e]];
                    if (room[e] > 0 && start < UNREACHED && start + price[e] < reached[to[e]]) {
                        reached[to[e]] = start + price[e];
                        by[to[e]] = e;
                        better = true;
                    }
                }
            }
        }

        /** The node that lacks something and is reached most cheaply, or -1. */
        private int nearest() {
            int best = -1;
            int least = UNREACHED;
            for (int node = 0; node < NODES; node++) {
                if (excess[node] < 0 && reached[node] < least) {
                    best = node;
                    least = reached[node];
                }
            }
            return best;
        }

        /** Sends as much as the path that was found to the end can take. */
        private int send(int end) {
            int amount = -excess[end];
            int at = end;
            for (int i = 0; i < NODES && by[at] >= 0; i++) {
                amount = Math.min(amount, room[by[at]]);
                at = from[by[at]];
            }
            amount = Math.min(amount, excess[at]);
            excess[at] -= amount;
            excess[end] += amount;
            at = end;
            for (int i = 0; i < NODES && by[at] >= 0; i++) {
                int e = by[at];
                room[e] -= amount;
                room[e ^ 1] += amount;
                at = from[e];
            }
            return amount;
        }
    }

    /** What is asked of single walkers: the cheapest ways, errands, how many ways there are, chances. */
    private static final class Routes {
        // Far above what seven ways can cost together; sums of it stay in an int.
        private static final int CLOSED = 1000000;
        // One of 1 to 6 leads, each as likely, is a whole number of sixtieths.
        private static final int SHARES = 60;
        private static final int SETS = 1 << MOST_STREETS, MOST_DIVISIONS = 100;

        private int streets;
        private final int[] open;
        private final int[] way;
        private final int[] rest;
        private final long[] row;
        private final long[] next;

        Routes() {
            open = new int[MOST_STREETS];
            way = new int[MOST_STREETS * MOST_STREETS];
            rest = new int[SETS * MOST_STREETS];
            row = new long[MOST_STREETS];
            next = new long[MOST_STREETS];
        }

        void load(State state) {
            streets = state.streets;
            for (int i = 0; i < streets; i++) {
                open[i] = state.openFrom(i);
                int step = state.step(i);
                for (int j = 0; j < streets; j++) {
                    int direct = (open[i] >> j & 1) == 1 ? step : CLOSED;
                    way[i * MOST_STREETS + j] = i == j ? 0 : direct;
                }
            }
            for (int over = 0; over < streets; over++) {
                for (int i = 0; i < streets; i++) {
                    for (int j = 0; j < streets; j++) {
                        int round = price(i, over) + price(over, j);
                        way[i * MOST_STREETS + j] = Math.min(price(i, j), round);
                    }
                }
            }
        }

        private int price(int one, int other) {
            return way[one * MOST_STREETS + other];
        }

        int cheapestWay(int one, int other) {
            return price(one, other) < CLOSED ? price(one, other) : BY_NONE;
        }

        /** The rest of each part of the set, from each street: through all of the part, then home. */
        void plan(int home, int set) {
            for (int part = 0; part <= set && part < SETS; part++) {
                for (int at = 0; at < streets && (part & ~set) == 0; at++) {
                    rest[part * MOST_STREETS + at] = part == 0 ? price(at, home) : leastRest(at, part);
                }
            }
        }

        private int leastRest(int at, int part) {
            int least = CLOSED;
            for (int first = 0; first < streets; first++) {
                if ((part >> first & 1) == 1) {
                    least = Math.min(least, restBy(at, first, part));
                }
            }
            return least;
        }

        private int restBy(int at, int first, int part) {
            return price(at, first) + rest[(part ^ 1 << first) * MOST_STREETS + first];
        }

        int planned(int home, int set) {
            int cost = rest[set * MOST_STREETS + home];
            return cost < CLOSED ? cost : BY_NONE;
        }

        /** The least street that keeps the rest the least at each place gives the first order as a row. */
        int inOrder(int home, int set, int k) {
            if (planned(home, set) < 0) {
                return BY_NONE;
            }
            int at = home;
            int part = set;
            for (int i = 0; i <= k; i++) {
                at = firstOf(at, part);
                if (at < 0) {
                    return BY_NONE;
                }
                part ^= 1 << at;
            }
            return at;
        }

        private int firstOf(int at, int part) {
            for (int first = 0; first < streets; first++) {
                boolean isLeft = (part >> first & 1) == 1;
                if (isLeft && restBy(at, first, part) == rest[part * MOST_STREETS + at]) {
                    return first;
                }
            }
            return -1;
        }

        int bestPlace(int goals) {
            int best = BY_NONE;
            int least = CLOSED;
            for (int place = 0; place < streets; place++) {
                int sum = 0;
                for (int goal = 0; goal < streets; goal++) {
                    if ((goals >> goal & 1) == 1) {
                        sum += price(place, goal);
                    }
                }
                if (sum < least) {
                    best = place;
                    least = sum;
                }
            }
            return best;
        }

        long walks(int one, int other, int n) {
            begin(one);
            for (int i = 0; i < n; i++) {
                Arrays.fill(next, 0L);
                for (int at = 0; at < streets; at++) {
                    give(at, row[at]);
                }
                System.arraycopy(next, 0, row, 0, MOST_STREETS);
            }
            return row[other];
        }

        long chance(int one, int other, int n, int part) {
            begin(one);
            long whole = 1;
            for (int i = 0; i < n; i++) {
                whole *= SHARES;
                Arrays.fill(next, 0L);
                for (int at = 0; at < streets; at++) {
                    share(at);
                }
                System.arraycopy(next, 0, row, 0, MOST_STREETS);
            }
            long divisor = commonDivisor(row[other], whole);
            if (divisor <= 0) {
                return NO;
            }
            return (part == 0 ? row[other] : whole) / divisor;
        }

        private void begin(int one) {
            Arrays.fill(row, 0L);
            row[one] = 1;
        }

        private void share(int at) {
            int leads = Integer.bitCount(open[at]);
            if (leads == 0) {
                next[at] += row[at] * SHARES;
            } else {
                give(at, row[at] * (SHARES / leads));
            }
        }

        private void give(int at, long each) {
            for (int other = 0; other < streets; other++) {
                if ((open[at] >> other & 1) == 1) {
                    next[other] += each;
                }
            }
        }

        private static long commonDivisor(long one, long other) {
            long a = one;
            long b = other;
            for (int i = 0; i < MOST_DIVISIONS && b != 0; i++) {
                long left = a % b;
                a = b;
                b = left;
            }
            return a;
        }
    }

    /** Runs the bodies of acts, each found by kind, and keeps the trace of the latest act. */
    private static final class Actor {
        static final int COUNTS = 0, PAYS = 1, TELLS = 2, ACTS = 3, MOST_TRACED = 20;
        private static final int MOST_DEPTH = 40;
        // By kind, and in it by act: the body's number, 0 where the kind has none of its own.
        private static final int[] BODIES = {
            1, 2, 3,
            11, 0, 0,
            0, 21, 0,
            0, 0, 31,
            0, 0, 41,
            51, 0, 0,
            0, 61, 0};

        int ran;
        final int[] traced;
        private int number;
        private int kind;
        private int v;

        Actor() {
            traced = new int[MOST_TRACED];
        }

        void forget() {
            ran = 0;
        }

        int perform(State state, int street, int act, int x) {
            number = street;
            kind = state.kind[street];
            v = state.v[street];
            return run(kind, act, x, 0);
        }

        /** Runs the act's body of the kind or of the next above that has one. */
        private int run(int fromKind, int act, int x, int depth) {
            if (fromKind < 0 || fromKind >= KINDS || depth > MOST_DEPTH) {
                return 0;
            }
            int at = fromKind;
            for (int i = 0; i < KINDS && at > STREET && BODIES[at * ACTS + act] == 0; i++) {
                at = ABOVE[at];
            }
            return runBody(BODIES[at * ACTS + act], ABOVE[at], x, depth + 1);
        }

        private int runBody(int body, int above, int x, int depth) {
            note(body);
            switch (body) {
                case 1: return x + number;
                case 2: return run(kind, COUNTS, x, depth) - v;
                case 3: return run(kind, PAYS, x, depth) * 2;
                case 11: return run(above, COUNTS, x * 3, depth);
                case 21: return -run(above, PAYS, x, depth);
                case 31: return run(above, TELLS, x, depth) ^ 7;
                case 41: return run(above, TELLS, x - 1, depth) + run(kind, COUNTS, 2, depth);
                case 51: return run(above, COUNTS, x, depth) ^ number;
                case 61: return run(above, PAYS, x, depth) + v;
                default: return 0;
            }
        }

        private void note(int body) {
            if (ran < MOST_TRACED) {
                traced[ran] = body;
            }
            ran++;
        }
    }
}
