import java.util.Arrays;
import java.util.NoSuchElementException;

/**
 * The sun as an official: a hill of desks, papers and parishes that is told as a text and played hour by hour.
 * Promises, and words that are written in capitals, are those of DOC.md.
 */
public final class SunDesk {
    public static final int NONE = -1;
    public static final int HIDDEN = -1000000;

    private static final int NO_SORT = -2;
    private static final int SORT_HILL = 0;
    private static final int SORT_RULE = 1;
    private static final int SORT_ORDERS = 2;

    private static final int TAPE_MOST = 240;
    private static final int RULES_MOST = 4;
    private static final int ORDERS_MOST = 4;
    private static final int STEPS_MOST = 16;
    private static final int PARISHES_MOST = 6;
    private static final int DESKS_MOST = 4;
    private static final int PAPERS_MOST = 8;
    private static final int PLAYERS_MOST = 5;
    private static final int SEEN_MOST = 12;
    private static final int ACTS_MOST = 40;
    private static final int LOG_MOST = 60;
    private static final int HOUR_MOST = 9999;
    private static final int GO_MOST = 240;
    private static final int TOIL_MOST = 48;
    private static final int WORKS_MOST = 9;
    private static final int BRIBE_MOST = 99;
    private static final int ECLIPSE_MOST = 99;
    private static final int DAY = 24;

    // The kinds of a HILL's CLAUSES, and the ITEMS of each by their number.
    private static final int SUN = 0;
    private static final int PARISH = 1;
    private static final int DESK = 2;
    private static final int PAPER = 3;
    private static final int DAWN = 0;
    private static final int LIGHT = 1;
    private static final int FORM = 0;
    private static final int NEEDS = 1;
    private static final int ZEAL = 2;
    private static final int OPENS = 0;
    private static final int CLOSES = 1;
    private static final int TAKES = 2;
    private static final int FEE = 3;
    private static final int DESK_OF = 0;
    private static final int WANT_N = 1;
    private static final int WANT_M = 2;
    private static final int WANTS_NONE = 8;

    // The sorts of a STEP, which are those of an ACT too.
    private static final int FILING = 0;
    private static final int WITHDRAWING = 1;
    private static final int HOUR_STEP = 2;

    private final Tape tape = new Tape();
    private final Hill hill = new Hill();
    private final Hill draft = new Hill();
    private final RuleReader ruleReader = new RuleReader();
    private final Rules rules = new Rules();
    private final Orders orderBook = new Orders();
    private final State now = new State(State.DAYS_MOST);
    // What is tried apart keeps no LOG.
    private final State apart = new State(0);
    private final State kept = new State(State.DAYS_MOST);
    private final Acts acts = new Acts();
    private final Routes routes = new Routes();
    private final Sharing sharing = new Sharing();
    private final Sights sights = new Sights();
    private boolean hasImage;
    private int eclipse;
    private long draws;

    public SunDesk() {
    }

    public int feed(int a, int b, int c, int d, int e) {
        int more = Tape.bytesIn(a) + Tape.bytesIn(b) + Tape.bytesIn(c) + Tape.bytesIn(d) + Tape.bytesIn(e);
        if (tape.length + more > TAPE_MOST) {
            return NONE;
        }
        tape.append(a);
        tape.append(b);
        tape.append(c);
        tape.append(d);
        tape.append(e);
        return tape.length;
    }

    public boolean end(int n) {
        if (n < 0 || n > tape.length) {
            return false;
        }
        tape.length = n;
        return true;
    }

    public int fault(int sort) {
        if (sort == SORT_HILL) {
            return draft.read(tape);
        }
        if (sort == SORT_RULE) {
            return ruleReader.read(tape);
        }
        return sort == SORT_ORDERS ? orderBook.read(tape) : NO_SORT;
    }

    public int text(int sort) {
        boolean full = sort == SORT_RULE && rules.many == RULES_MOST || sort == SORT_ORDERS && orderBook.many == ORDERS_MOST;
        if (full || fault(sort) != NONE) {
            return NONE;
        }
        tape.length = 0;
        if (sort == SORT_RULE) {
            return rules.add(ruleReader);
        }
        if (sort == SORT_ORDERS) {
            return orderBook.add();
        }
        beginHill();
        return hill.many(PARISH);
    }

    public int sun(int what) {
        return !hasHill() || what < DAWN || what > LIGHT ? NONE : hill.item(SUN, 0, what);
    }

    public int parish(int parish, int what) throws NoSuchElementException {
        if (!hill.has(PARISH, parish) || what < 0 || what > ZEAL + State.SHOWN) {
            throw new NoSuchElementException();
        }
        return what <= ZEAL ? hill.item(PARISH, parish, what) : now.of(what - ZEAL - 1, parish);
    }

    public int desk(int desk, int what) {
        if (!hill.has(DESK, desk) || what < 0) {
            return NONE;
        }
        switch (what) {
            case 4:
                return now.backlog(desk);
            case 5:
                return now.first(desk);
            case 6:
                return hill.isOpen(desk, now.time()) ? 1 : 0;
            default:
                return what <= FEE ? hill.item(DESK, desk, what) : NONE;
        }
    }

    public int paper(int paper, int what) {
        if (!hill.has(PAPER, paper) || what < DESK_OF || what > WANT_M) {
            return NONE;
        }
        int told = hill.item(PAPER, paper, what);
        return what != DESK_OF && told == WANTS_NONE ? NONE : told;
    }

    public boolean rule(int rule) {
        if (rule < NONE || rule >= rules.many) {
            return false;
        }
        rules.holding = rule;
        return true;
    }

    public boolean eclipse(int v) {
        if (v < 0 || v > ECLIPSE_MOST || v == eclipse) {
            return false;
        }
        eclipse = v;
        return true;
    }

    public int file(int parish, int paper) {
        if (!now.allows(hill, FILING, parish, paper)) {
            return NONE;
        }
        acts.keep(now);
        now.enqueue(hill, parish, paper);
        return now.backlog(hill.item(PAPER, paper, DESK_OF));
    }

    public int withdraw(int parish) {
        if (!now.allows(hill, WITHDRAWING, parish, NONE)) {
            return NONE;
        }
        acts.keep(now);
        return now.leave(parish);
    }

    public int go(int n) {
        if (!canPass(n, GO_MOST)) {
            return NONE;
        }
        for (int i = 0; i < n; i++) {
            acts.keep(now);
            now.pass(hill, rules, false);
        }
        return now.hour();
    }

    public int toil(int n) {
        if (!canPass(n, TOIL_MOST)) {
            return NONE;
        }
        for (int i = 0; i < n; i++) {
            acts.keep(now);
            for (int p = 0; p < hill.many(PARISH); p++) {
                if (now.isIdle(hill, p)) {
                    fileSoonest(p);
                }
            }
            now.pass(hill, rules, false);
        }
        return now.hour();
    }

    public int years(int n, long seed) {
        if (!canPass(n, GO_MOST)) {
            return NONE;
        }
        draws = seed;
        for (int i = 0; i < n; i++) {
            acts.keep(now);
            for (int p = 0; p < hill.many(PARISH); p++) {
                if (now.isIdle(hill, p) && draw(10) < hill.item(PARISH, p, ZEAL)) {
                    fileSoonest(p);
                }
            }
            boolean dawns = now.time() == hill.item(SUN, 0, DAWN);
            now.pass(hill, rules, dawns && draw(100) < eclipse);
        }
        return now.hour();
    }

    public int undo() {
        return acts.restore(now);
    }

    public int log(int i, int what) {
        if (i < 0 || i >= now.logLength() || what < 0 || what > 1) {
            return NONE;
        }
        int row = now.logLength() - 1 - i;
        return what == 0 ? now.whoHadLight(row) : now.hoursOfLight(row);
    }

    public int step(int orders, int i, int what) {
        return orderBook.part(orders, i, what);
    }

    public int run(int orders) {
        if (!hasHill() || !orderBook.has(orders)) {
            return HIDDEN;
        }
        apart.take(now);
        for (int i = 0; i < orderBook.length(orders); i++) {
            if (!canStep(apart, orders, i)) {
                return i;
            }
            takeStep(apart, orders, i);
        }
        return NONE;
    }

    public int perform(int orders) {
        if (!hasHill() || !orderBook.has(orders)) {
            return NONE;
        }
        for (int i = 0; i < orderBook.length(orders); i++) {
            if (!canStep(now, orders, i)) {
                return i;
            }
            acts.keep(now);
            takeStep(now, orders, i);
        }
        return orderBook.length(orders);
    }

    public int ahead(int parish, int n, int what) {
        if (!hill.has(PARISH, parish) || n < 0 || n > GO_MOST || what < 0 || what > 1) {
            return NONE;
        }
        apart.take(now);
        for (int i = 0; i < n; i++) {
            apart.pass(hill, rules, false);
        }
        return apart.of(what == 0 ? State.HELD : State.SHONE, parish);
    }

    public int needed(int paper) {
        return hill.has(PAPER, paper) ? hill.lacks(1 << paper, 0) : NONE;
    }

    public int ring() {
        if (!hasHill()) {
            return NONE;
        }
        int ring = 0;
        for (int r = 0; r < hill.many(PAPER); r++) {
            ring |= hill.lacks(hill.wants(r), 0) & 1 << r;
        }
        return ring;
    }

    public int soonest(int parish, int what) {
        if (!hill.has(PARISH, parish) || what < 0 || what > 2) {
            return NONE;
        }
        int lacks = lacksOf(parish, 0);
        int hours = routes.hours(hill, lacks, now.time());
        if (hours == NONE || what == 0) {
            return hours;
        }
        return what == 1 ? routes.row(hill, lacks, now.time()) : hill.fees(lacks);
    }

    public int waived(int parish) {
        if (!hill.has(PARISH, parish)) {
            return NONE;
        }
        if (hasRow(parish, 0)) {
            return 0;
        }
        // One PAPER is always enough: who holds its FORM lacks nothing.
        for (int r = 0; r < hill.many(PAPER); r++) {
            if (hasRow(parish, 1 << r)) {
                return 1 << r;
            }
        }
        return NONE;
    }

    public int earliest() {
        int best = NONE;
        int fewest = NONE;
        for (int p = 0; p < hill.many(PARISH); p++) {
            int hours = routes.hours(hill, lacksOf(p, 0), now.time());
            if (hours != NONE && (best == NONE || hours < fewest)) {
                best = p;
                fewest = hours;
            }
        }
        return best;
    }

    public int share(int row, int parish) {
        if (!hill.has(PARISH, parish) || hill.many(PARISH) > PLAYERS_MOST || !sharing.choose(hill, row)) {
            return HIDDEN;
        }
        return hill.portion(sharing.choice, parish);
    }

    public int rests(int i) {
        if (!hasHill()) {
            return NONE;
        }
        if (hill.many(PARISH) > PLAYERS_MOST) {
            return HIDDEN;
        }
        int many = sharing.findRests(hill);
        return i == NONE ? many : sharing.rest(i);
    }

    public int bribes(int g, int f, int c, int what) {
        if (!isStake(g) || !isStake(f) || !isStake(c) || what < 0 || what > 3) {
            return NONE;
        }
        boolean audited = c < f;
        int above = what < 2 ? (audited ? c : 1) : (audited ? g : 0);
        int below = what < 2 ? (audited ? f : 1) : (audited ? g + f : 1);
        int common = divisor(above, below);
        return common < 1 ? NONE : (what == 0 || what == 2 ? above : below) / common;
    }

    public int see(int parish, int hours) {
        if (!hill.has(PARISH, parish) || hours < 0 || hours > DAY) {
            return NONE;
        }
        return sights.add(parish, hours);
    }

    public int could(int i) {
        if (!hasHill() || i < NONE) {
            return NONE;
        }
        int many = 0;
        for (int set = 0; set < 1 << hill.many(PARISH); set++) {
            if (sights.falsehoods(hill, set) == 0) {
                if (many == i) {
                    return set;
                }
                many++;
            }
        }
        return i == NONE ? many : NONE;
    }

    public int sure() {
        if (!hasHill()) {
            return NONE;
        }
        // Every bit at first: without any such set it stays NONE.
        int sure = NONE;
        for (int set = 0; set < 1 << hill.many(PARISH); set++) {
            if (sights.falsehoods(hill, set) == 0) {
                sure &= set;
            }
        }
        return sure;
    }

    public int wrong() {
        if (!hasHill()) {
            return NONE;
        }
        int fewest = SEEN_MOST;
        for (int set = 0; set < 1 << hill.many(PARISH); set++) {
            fewest = Math.min(fewest, sights.falsehoods(hill, set));
        }
        return fewest;
    }

    public int works(int n, int what) {
        if (!hasHill() || n < 1 || n > WORKS_MOST || what < 0 || what > 1) {
            return NONE;
        }
        int first = NONE;
        int most = NONE;
        for (int i = 0; i + n <= now.logLength(); i++) {
            int hours = 0;
            for (int k = i; k < i + n; k++) {
                hours += now.hoursOfLight(k);
            }
            if (hours > most) {
                first = i;
                most = hours;
            }
        }
        return what == 0 ? first : most;
    }

    public int image() {
        if (!hasHill()) {
            return NONE;
        }
        kept.take(now);
        hasImage = true;
        return now.hour();
    }

    public int back() {
        if (!hasImage) {
            return NONE;
        }
        now.take(kept);
        acts.forget();
        return now.hour();
    }

    public int count(int what) {
        switch (what) {
            case 0:
                return hill.many(PARISH);
            case 1:
                return hill.many(DESK);
            case 2:
                return hill.many(PAPER);
            case 3:
                return rules.many;
            case 4:
                return orderBook.many;
            case 5:
                return tape.length;
            case 6:
                return rules.holding;
            case 7:
                return now.hour();
            case 8:
                return eclipse;
            case 9:
                return sights.many;
            case 10:
                return now.logLength();
            case 11:
                return acts.many;
            default:
                return HIDDEN;
        }
    }

    private boolean hasHill() {
        return hill.many(PARISH) > 0;
    }

    private void beginHill() {
        hill.take(draft);
        now.clear();
        acts.forget();
        routes.forget();
        sharing.forget();
        sights.forget();
        hasImage = false;
    }

    private boolean canPass(int n, int most) {
        return hasHill() && n >= 1 && n <= most && now.hour() + n <= HOUR_MOST;
    }

    private boolean canStep(State state, int orders, int i) {
        return state.allows(hill, orderBook.part(orders, i, 0), orderBook.part(orders, i, 1), orderBook.part(orders, i, 2));
    }

    /** Does a STEP that can be. */
    private void takeStep(State state, int orders, int i) {
        int sort = orderBook.part(orders, i, 0);
        if (sort == FILING) {
            state.enqueue(hill, orderBook.part(orders, i, 1), orderBook.part(orders, i, 2));
        } else if (sort == WITHDRAWING) {
            state.leave(orderBook.part(orders, i, 1));
        } else {
            state.pass(hill, rules, false);
        }
    }

    /** What a PARISH LACKS, if it held these PAPERS (bits) besides its own. */
    private int lacksOf(int parish, int besides) {
        return hill.lacks(1 << hill.item(PARISH, parish, FORM), now.of(State.HELD, parish) | besides);
    }

    private boolean hasRow(int parish, int besides) {
        return routes.hours(hill, lacksOf(parish, besides), now.time()) != NONE;
    }

    private void fileSoonest(int parish) {
        int paper = routes.first(hill, lacksOf(parish, 0), now.time());
        if (now.allows(hill, FILING, parish, paper)) {
            now.enqueue(hill, parish, paper);
        }
    }

    private int draw(int k) {
        draws = draws * 6364136223846793005L + 1442695040888963407L;
        return k < 1 ? 0 : (int) ((draws >>> 33) % k);
    }

    private static boolean isStake(int v) {
        return v >= 1 && v <= BRIBE_MOST;
    }

    private static int divisor(int above, int below) {
        int a = above;
        int b = below;
        // Two rounds halve the rest at least, so few are needed for numbers below 200.
        for (int i = 0; i < 2 * BRIBE_MOST && b > 0; i++) {
            int rest = a % b;
            a = b;
            b = rest;
        }
        return a;
    }

    private static int at(int[] row, int i) {
        return i >= 0 && i < row.length ? row[i] : NONE;
    }

    private static void put(int[] row, int i, int value) {
        if (i >= 0 && i < row.length) {
            row[i] = value;
        }
    }

    /** Where a sign stands first among these; NONE if it does not (as for the end of a tape). */
    private static int placeIn(String signs, int sign) {
        for (int i = 0; i < signs.length(); i++) {
            if (signs.charAt(i) == sign) {
                return i;
            }
        }
        return NONE;
    }

    private static boolean isIn(int bits, int i) {
        return i >= 0 && i < PAPERS_MOST && (bits >> i & 1) == 1;
    }

    /** The bytes that were fed, and the place up to which a reader has come. */
    private static final class Tape {
        /** Stands for the sign behind the last one, and for any sign once there is a FAULT. */
        static final int END = -1;
        private static final int BLANK = 32;

        final int[] bytes = new int[TAPE_MOST];
        int length;
        int place;
        int fault = NONE;

        static int bytesIn(int word) {
            int many = 0;
            for (int shift = 24; shift >= 0; shift -= 8) {
                many += (word >>> shift & 255) != 0 ? 1 : 0;
            }
            return many;
        }

        void append(int word) {
            for (int shift = 24; shift >= 0; shift -= 8) {
                int sign = word >>> shift & 255;
                if (sign != 0 && length < TAPE_MOST) {
                    put(bytes, length, sign);
                    length++;
                }
            }
        }

        void rewind() {
            place = 0;
            fault = NONE;
        }

        /** The next sign behind blanks, without taking it. */
        int next() {
            while (place < length && at(bytes, place) == BLANK) {
                place++;
            }
            return fault != NONE || place >= length ? END : at(bytes, place);
        }

        boolean take(int sign) {
            if (next() != sign) {
                return false;
            }
            place++;
            return true;
        }

        void blame(int where) {
            if (fault == NONE) {
                fault = where;
            }
        }

        /** A number of so many digits at most. */
        int number(int digits) {
            int sign = next();
            int value = 0;
            int seen = 0;
            for (; seen < digits && isDigit(sign); seen++) {
                value = value * 10 + sign - '0';
                place++;
                sign = place < length ? at(bytes, place) : END;
            }
            // A digit too many is the FAULT itself; without any it is what stands there instead.
            if (seen == 0 || isDigit(sign)) {
                blame(place);
            }
            return value;
        }

        /** The FAULT; what is left of the tape is one, too. */
        int close() {
            if (next() != END) {
                blame(place);
            }
            return fault;
        }

        static boolean isDigit(int sign) {
            return sign >= '0' && sign <= '9';
        }
    }

    /** What a HILL's TEXT tells. */
    private static final class Hill {
        private static final String KINDS = "spdr";
        private static final int ITEMS = 4;
        /** Four ITEMS of each kind; a blank, which no reader meets, where a kind has fewer. */
        private static final String LETTERS = "al  fnz octednm ";
        private static final int[] LEAST = {0, 0, 0, 0, 0, 1, 0, 0, 0, 1, 1, 0, 0, 0, 0, 0};
        private static final int[] MOST = {23, 24, 0, 0, 7, 24, 9, 0, 23, 24, 9, 9, 3, 8, 8, 0};
        private static final int[] UNTOLD = {6, 12, 0, 0, 0, 6, 5, 0, 0, 24, 1, 1, 0, 8, 8, 0};
        private static final int[] CLAUSES = {1, PARISHES_MOST, DESKS_MOST, PAPERS_MOST};
        private static final int KINDS_MANY = 4;

        /** Of each kind room for as many as there may be PAPERS. */
        private final int[] cells = new int[KINDS_MANY * PAPERS_MOST * ITEMS];
        private final int[] told = new int[KINDS_MANY];
        private final int[] wanted = new int[PAPERS_MOST];

        int many(int kind) {
            return at(told, kind);
        }

        boolean has(int kind, int i) {
            return i >= 0 && i < many(kind);
        }

        int item(int kind, int i, int item) {
            return at(cells, cellOf(kind, i, item));
        }

        private static int cellOf(int kind, int i, int item) {
            return (kind * PAPERS_MOST + i) * ITEMS + item;
        }

        /** What a PAPER WANTS, as bits. */
        int wants(int paper) {
            return at(wanted, paper);
        }

        void take(Hill other) {
            System.arraycopy(other.cells, 0, cells, 0, cells.length);
            System.arraycopy(other.told, 0, told, 0, told.length);
            System.arraycopy(other.wanted, 0, wanted, 0, wanted.length);
        }

        /** Reads the tape as a HILL: its FAULT. */
        int read(Tape tape) {
            tape.rewind();
            Arrays.fill(told, 0);
            useUntold(SUN, 0);
            readClause(tape);
            for (int i = 1; i < TAPE_MOST && tape.take(';'); i++) {
                readClause(tape);
            }
            if (tape.close() == NONE && !isWhole()) {
                tape.blame(tape.length);
            }
            return tape.fault;
        }

        private void useUntold(int kind, int i) {
            for (int item = 0; item < ITEMS; item++) {
                put(cells, cellOf(kind, i, item), at(UNTOLD, kind * ITEMS + item));
            }
        }

        private void readClause(Tape tape) {
            int kind = placeIn(KINDS, tape.next());
            if (kind < 0 || many(kind) >= at(CLAUSES, kind)) {
                tape.blame(tape.place);
                return;
            }
            tape.place++;
            int i = many(kind);
            put(told, kind, i + 1);
            useUntold(kind, i);
            readItems(tape, kind, i);
        }

        private void readItems(Tape tape, int kind, int i) {
            int used = 0;
            int item = itemOf(kind, tape.next());
            for (int n = 0; n < ITEMS && item != NONE && !isIn(used, item); n++) {
                used |= 1 << item;
                tape.place++;
                int value = tape.number(2);
                if (value < at(LEAST, kind * ITEMS + item) || value > at(MOST, kind * ITEMS + item)) {
                    tape.blame(tape.place - 1);
                }
                put(cells, cellOf(kind, i, item), value);
                item = itemOf(kind, tape.next());
            }
        }

        private static int itemOf(int kind, int sign) {
            for (int item = 0; item < ITEMS; item++) {
                int spot = kind * ITEMS + item;
                if (spot >= 0 && spot < LETTERS.length() && LETTERS.charAt(spot) == sign) {
                    return item;
                }
            }
            return NONE;
        }

        /** Whether all is there that a HILL has to have; notes what the PAPERS want. */
        private boolean isWhole() {
            boolean whole = many(PARISH) > 0 && many(DESK) > 0 && many(PAPER) > 0;
            for (int d = 0; d < many(DESK); d++) {
                whole &= item(DESK, d, OPENS) < item(DESK, d, CLOSES);
            }
            for (int p = 0; p < many(PARISH); p++) {
                whole &= has(PAPER, item(PARISH, p, FORM));
            }
            for (int r = 0; r < many(PAPER); r++) {
                int n = item(PAPER, r, WANT_N);
                int m = item(PAPER, r, WANT_M);
                whole &= has(DESK, item(PAPER, r, DESK_OF));
                whole &= (n == WANTS_NONE || has(PAPER, n)) && (m == WANTS_NONE || has(PAPER, m));
                put(wanted, r, (n == WANTS_NONE ? 0 : 1 << n) | (m == WANTS_NONE ? 0 : 1 << m));
            }
            return whole;
        }

        boolean isOpen(int desk, int time) {
            return time >= item(DESK, desk, OPENS) && time < item(DESK, desk, CLOSES);
        }

        /** Of these PAPERS (bits) what is not held, what that WANTS and is not held, and so on. */
        int lacks(int papers, int held) {
            int lacks = papers & ~held;
            int before = 0;
            for (int round = 0; round < PAPERS_MOST && lacks != before; round++) {
                before = lacks;
                for (int r = 0; r < many(PAPER); r++) {
                    if (isIn(lacks, r)) {
                        lacks |= wants(r) & ~held;
                    }
                }
            }
            return lacks;
        }

        int fees(int papers) {
            int fees = 0;
            for (int r = 0; r < many(PAPER); r++) {
                if (isIn(papers, r)) {
                    fees += item(DESK, item(PAPER, r, DESK_OF), FEE);
                }
            }
            return fees;
        }

        /** HOURS from this time of the day on till a PAPER is had for which nobody else waits. */
        int span(int paper, int time) {
            int desk = item(PAPER, paper, DESK_OF);
            int opens = item(DESK, desk, OPENS);
            int closes = item(DESK, desk, CLOSES);
            int open = closes - opens;
            if (open < 1) {
                return NONE;
            }
            // The hours count on as if the DESK had been at it since it opened on the day when this begins.
            int begun = time > opens && time < closes ? time - opens : 0;
            int last = begun + item(DESK, desk, TAKES) - 1;
            int ends = (time >= closes ? DAY : 0) + last / open * DAY + opens + last % open + 1;
            return ends - time;
        }

        /** The hours of light of a PARISH, if each shares by the PAPER (or NONE) that it holds in this row. */
        int portion(int[] papers, int parish) {
            int paper = at(papers, parish);
            int sharers = 0;
            int lower = 0;
            for (int p = 0; p < many(PARISH); p++) {
                if (at(papers, p) == paper) {
                    sharers++;
                    lower += p < parish ? 1 : 0;
                }
            }
            if (paper == NONE || sharers < 1) {
                return 0;
            }
            int light = item(SUN, 0, LIGHT);
            int hours = light / sharers + (lower < light % sharers ? 1 : 0);
            return Math.min(hours, item(PARISH, parish, NEEDS));
        }
    }

    /** Reads a RULE into code, in which a sign stands behind all that it joins. */
    private static final class RuleReader {
        /** Code from here on is a letter, below it a number; a sign is told by its byte below 0. */
        static final int LETTER = 10000;
        /** Five signs at most wait in each of seven levels, and the six that open these. */
        static final int PENDING_MOST = 48;
        private static final String LETTERS = "hdwkpnz";
        private static final int DEPTH_MOST = 6;
        private static final int NUMBER_DIGITS = 4;
        private static final int RANK_OF_ALL = 1;

        final int[] code = new int[TAPE_MOST];
        int size;
        /** Signs that wait for what stands behind them, the latest last. */
        private final int[] pending = new int[PENDING_MOST];
        private int waiting;
        /** How many of ( [ ! are open, and of ( and [ alone. */
        private int depth;
        private int parentheses;
        private int brackets;
        /** Whether an ATOM has to come, and whether a whole UNIT may stand there. */
        private boolean wantsAtom;
        private boolean mayBeUnit;
        /** Whether the UNIT that is read has its = < >, and whether it ended in a ). */
        private boolean compared;
        private boolean closed;
        /** Whether the CLAUSE has a CONDITION, and whether its ? was read. */
        private boolean conditional;
        private boolean asked;

        /** Reads the tape as a RULE: its FAULT. */
        int read(Tape tape) {
            tape.rewind();
            size = 0;
            readClause(tape);
            for (int i = 1; i < TAPE_MOST && tape.take(';'); i++) {
                readClause(tape);
            }
            return tape.close();
        }

        private void readClause(Tape tape) {
            waiting = 0;
            depth = 0;
            parentheses = 0;
            brackets = 0;
            wantsAtom = true;
            mayBeUnit = true;
            compared = false;
            closed = false;
            conditional = false;
            asked = false;
            if (!tape.take('y') || !tape.take(':')) {
                tape.blame(tape.place);
            }
            boolean goesOn = tape.fault == NONE;
            for (int i = 0; i < TAPE_MOST && goesOn; i++) {
                goesOn = wantsAtom ? readOperand(tape) : readJoint(tape);
            }
        }

        /** A number, a letter or what opens one; whether the CLAUSE goes on. */
        private boolean readOperand(Tape tape) {
            int sign = tape.next();
            int letter = placeIn(LETTERS, sign);
            if (Tape.isDigit(sign)) {
                emit(tape.number(NUMBER_DIGITS));
                wantsAtom = false;
            } else if (letter >= 0) {
                tape.place++;
                emit(LETTER + letter);
                wantsAtom = false;
            } else if (depth < DEPTH_MOST && (sign == '[' || mayBeUnit && (sign == '(' || sign == '!'))) {
                tape.place++;
                open(sign);
            } else {
                tape.blame(tape.place);
            }
            return tape.fault == NONE;
        }

        private void open(int sign) {
            push(sign);
            depth++;
            if (sign == '[') {
                brackets++;
                mayBeUnit = false;
            } else {
                conditional = true;
            }
            if (sign == '(') {
                parentheses++;
            }
        }

        /** What may stand behind a whole ATOM or UNIT; whether the CLAUSE goes on. */
        private boolean readJoint(Tape tape) {
            int sign = tape.next();
            if (tape.fault != NONE || !fits(sign)) {
                tape.blame(tape.place);
                return false;
            }
            reduce(Math.max(rank(sign), RANK_OF_ALL));
            if (sign == ';' || sign == Tape.END) {
                emit(-';');
                return false;
            }
            tape.place++;
            if (sign == ')' || sign == ']') {
                shut(sign);
            } else {
                join(sign);
            }
            return true;
        }

        private boolean fits(int sign) {
            switch (sign) {
                case '+':
                case '-':
                case '*':
                case '/':
                    return !closed;
                case ']':
                    return brackets > 0;
                case '=':
                case '<':
                case '>':
                    return brackets == 0 && !asked && !compared;
                case '&':
                case '|':
                    return brackets == 0 && compared;
                case ')':
                    return brackets == 0 && compared && parentheses > 0;
                case '?':
                    return brackets == 0 && compared && parentheses == 0;
                case ';':
                case Tape.END:
                    return brackets == 0 && (asked || !conditional);
                default:
                    return false;
            }
        }

        private void join(int sign) {
            boolean compares = sign == '=' || sign == '<' || sign == '>';
            boolean ends = sign == '&' || sign == '|' || sign == '?';
            if (sign == '?') {
                emit(-sign);
                asked = true;
            } else {
                push(sign);
            }
            conditional |= compares;
            compared = compares || compared && !ends;
            closed &= !ends;
            wantsAtom = true;
            mayBeUnit = sign == '&' || sign == '|';
        }

        private void shut(int sign) {
            waiting = Math.max(waiting - 1, 0);
            depth--;
            if (sign == ']') {
                brackets--;
            } else {
                parentheses--;
                closed = true;
            }
        }

        /** Puts all signs into the code that bind at least so well, back to what is open. */
        private void reduce(int least) {
            for (int i = waiting - 1; i >= 0 && rank(at(pending, i)) >= least; i--) {
                int sign = at(pending, i);
                emit(-sign);
                depth -= sign == '!' ? 1 : 0;
                waiting = i;
            }
        }

        private static int rank(int sign) {
            switch (sign) {
                case '|':
                    return RANK_OF_ALL;
                case '&':
                    return 2;
                case '!':
                    return 3;
                case '=':
                case '<':
                case '>':
                    return 4;
                case '+':
                case '-':
                    return 5;
                case '*':
                case '/':
                    return 6;
                default:
                    return 0;
            }
        }

        private void push(int sign) {
            put(pending, waiting, sign);
            waiting = Math.min(waiting + 1, PENDING_MOST);
        }

        private void emit(int part) {
            put(code, size, part);
            size = Math.min(size + 1, TAPE_MOST);
        }
    }

    /** The RULES that were told, and which holds. */
    private static final class Rules {
        private static final int BOUND = 1000000;

        int many;
        int holding = NONE;
        private final int[] codes = new int[RULES_MOST * TAPE_MOST];
        private final int[] sizes = new int[RULES_MOST];
        private final int[] stack = new int[RuleReader.PENDING_MOST];
        private int top;

        /** The number of the RULE that was read. */
        int add(RuleReader reader) {
            if (many >= RULES_MOST) {
                return NONE;
            }
            for (int i = 0; i < reader.size; i++) {
                put(codes, many * TAPE_MOST + i, at(reader.code, i));
            }
            put(sizes, many, reader.size);
            many++;
            return many - 1;
        }

        /** The WORTH by the RULE that holds. */
        int worth(int[] letters) {
            boolean passed = false;
            top = 0;
            for (int i = 0; i < at(sizes, holding); i++) {
                int part = at(codes, holding * TAPE_MOST + i);
                if (passed) {
                    // A CLAUSE whose CONDITION does not hold is passed over up to its end.
                    passed = part != -';';
                } else if (part == -';') {
                    return at(stack, top - 1);
                } else if (part == -'?') {
                    top--;
                    passed = at(stack, top) == 0;
                } else {
                    compute(part, letters);
                }
            }
            return 0;
        }

        private void compute(int part, int[] letters) {
            if (part >= RuleReader.LETTER) {
                put(stack, top, at(letters, part - RuleReader.LETTER));
                top++;
            } else if (part >= 0) {
                put(stack, top, part);
                top++;
            } else if (part == -'!') {
                put(stack, top - 1, at(stack, top - 1) == 0 ? 1 : 0);
            } else {
                top--;
                long value = joined(-part, at(stack, top - 1), at(stack, top));
                put(stack, top - 1, (int) Math.max(-BOUND, Math.min(BOUND, value)));
            }
        }

        private static long joined(int sign, int left, int right) {
            switch (sign) {
                case '+':
                    return left + right;
                case '-':
                    return left - right;
                case '*':
                    return (long) left * right;
                case '/':
                    return right == 0 ? 0 : left / right;
                case '=':
                    return left == right ? 1 : 0;
                case '<':
                    return left < right ? 1 : 0;
                case '>':
                    return left > right ? 1 : 0;
                case '&':
                    return left & right;
                case '|':
                    return left | right;
                default:
                    return 0;
            }
        }
    }

    /** The ORDERS that were told. */
    private static final class Orders {
        private static final String SORTS = "fwh";
        private static final int PARTS = 3;
        private static final int ROOM = STEPS_MOST * PARTS;

        int many;
        private final int[] steps = new int[ORDERS_MOST * ROOM];
        private final int[] lengths = new int[ORDERS_MOST];
        private final int[] draft = new int[ROOM];
        private int drafted;

        /** Reads the tape as ORDERS: their FAULT. */
        int read(Tape tape) {
            tape.rewind();
            drafted = 0;
            readStep(tape);
            for (int i = 1; i < STEPS_MOST && tape.take(';'); i++) {
                readStep(tape);
            }
            return tape.close();
        }

        private void readStep(Tape tape) {
            int sort = placeIn(SORTS, tape.next());
            if (sort < 0) {
                tape.blame(tape.place);
                return;
            }
            tape.place++;
            put(draft, drafted * PARTS, sort);
            put(draft, drafted * PARTS + 1, sort == HOUR_STEP ? NONE : readDigit(tape));
            put(draft, drafted * PARTS + 2, sort == FILING ? readDigit(tape) : NONE);
            drafted++;
        }

        private static int readDigit(Tape tape) {
            int sign = tape.next();
            if (!Tape.isDigit(sign)) {
                tape.blame(tape.place);
                return NONE;
            }
            tape.place++;
            return sign - '0';
        }

        /** The number of the ORDERS that were read. */
        int add() {
            if (many >= ORDERS_MOST) {
                return NONE;
            }
            for (int i = 0; i < drafted * PARTS; i++) {
                put(steps, many * ROOM + i, at(draft, i));
            }
            put(lengths, many, drafted);
            many++;
            return many - 1;
        }

        boolean has(int orders) {
            return orders >= 0 && orders < many;
        }

        int length(int orders) {
            return has(orders) ? at(lengths, orders) : 0;
        }

        int part(int orders, int i, int part) {
            if (i < 0 || i >= length(orders) || part < 0 || part >= PARTS) {
                return NONE;
            }
            return at(steps, orders * ROOM + i * PARTS + part);
        }
    }

    /** How it stands in one HOUR: what is held, who waits, the LOG. */
    private static final class State {
        // What is kept of each PARISH, in the order in which it is shown.
        static final int HELD = 0;
        static final int WAITS = 1;
        static final int DONE = 2;
        static final int SHONE = 3;
        static final int PAID = 4;
        static final int REFUSED = 5;
        static final int SHOWN = 6;
        /** The DESK at which it waits. */
        private static final int STANDS = 6;
        /** Who waits, in the order in which they came to any DESK. */
        private static final int QUEUE = 7;
        private static final int HOUR = 48;
        private static final int QUEUED = 49;
        private static final int LOGGED = 50;
        static final int CELLS = 51;
        /** There is one DAWN in 24 HOURS, up to HOUR 9999. */
        static final int DAYS_MOST = 420;
        private static final int LETTERS = 7;

        private final int[] cells = new int[CELLS];
        /** Of each day the hours of all, times 64, and who had light; all days, so that UNDO finds older ones. */
        private final int[] days;
        private final int[] letters = new int[LETTERS];
        private final int[] papers = new int[PARISHES_MOST];

        State(int daysMost) {
            days = new int[Math.max(daysMost, 0)];
        }

        void clear() {
            Arrays.fill(cells, 0);
            for (int p = 0; p < PARISHES_MOST; p++) {
                set(WAITS, p, NONE);
                set(STANDS, p, NONE);
            }
        }

        void take(State other) {
            System.arraycopy(other.cells, 0, cells, 0, CELLS);
            System.arraycopy(other.days, 0, days, 0, Math.min(days.length, other.days.length));
        }

        int of(int field, int parish) {
            return at(cells, field * PARISHES_MOST + parish);
        }

        private void set(int field, int parish, int value) {
            put(cells, field * PARISHES_MOST + parish, value);
        }

        int hour() {
            return cells[HOUR];
        }

        int time() {
            return cells[HOUR] % DAY;
        }

        int logLength() {
            return Math.min(cells[LOGGED], LOG_MOST);
        }

        /** Of the i-th row of the LOG, the earliest first. */
        int whoHadLight(int i) {
            return at(days, cells[LOGGED] - logLength() + i) & 63;
        }

        int hoursOfLight(int i) {
            return at(days, cells[LOGGED] - logLength() + i) >> 6;
        }

        /** Whether it waits nowhere and does not hold its FORM. */
        boolean isIdle(Hill hill, int parish) {
            return of(WAITS, parish) == NONE && !isIn(of(HELD, parish), hill.item(PARISH, parish, FORM));
        }

        boolean allows(Hill hill, int sort, int parish, int paper) {
            if (sort == HOUR_STEP) {
                return hour() < HOUR_MOST;
            }
            if (!hill.has(PARISH, parish)) {
                return false;
            }
            if (sort == WITHDRAWING) {
                return of(WAITS, parish) != NONE;
            }
            int held = of(HELD, parish);
            return hill.has(PAPER, paper) && of(WAITS, parish) == NONE && !isIn(held, paper) && (hill.wants(paper) & ~held) == 0;
        }

        /** Who FILES comes last, at its DESK too. */
        void enqueue(Hill hill, int parish, int paper) {
            set(WAITS, parish, paper);
            set(STANDS, parish, hill.item(PAPER, paper, DESK_OF));
            set(QUEUE, cells[QUEUED], parish);
            cells[QUEUED] = Math.min(cells[QUEUED] + 1, PARISHES_MOST);
        }

        /** It goes away: the PAPER for which it waited. */
        int leave(int parish) {
            int paper = of(WAITS, parish);
            int left = 0;
            for (int i = 0; i < cells[QUEUED]; i++) {
                int p = of(QUEUE, i);
                if (p != parish) {
                    set(QUEUE, left, p);
                    left++;
                }
            }
            cells[QUEUED] = left;
            set(WAITS, parish, NONE);
            set(STANDS, parish, NONE);
            set(DONE, parish, 0);
            return paper;
        }

        int backlog(int desk) {
            int many = 0;
            for (int i = 0; i < cells[QUEUED]; i++) {
                many += of(STANDS, of(QUEUE, i)) == desk ? 1 : 0;
            }
            return many;
        }

        int first(int desk) {
            for (int i = 0; i < cells[QUEUED]; i++) {
                int p = of(QUEUE, i);
                if (of(STANDS, p) == desk) {
                    return p;
                }
            }
            return NONE;
        }

        /** An HOUR. */
        void pass(Hill hill, Rules rules, boolean eclipsed) {
            int time = time();
            if (time == hill.item(SUN, 0, DAWN)) {
                dawn(hill, eclipsed);
            }
            for (int d = 0; d < hill.many(DESK); d++) {
                if (hill.isOpen(d, time)) {
                    serve(hill, rules, d);
                }
            }
            cells[HOUR]++;
        }

        private void dawn(Hill hill, boolean eclipsed) {
            for (int p = 0; p < hill.many(PARISH); p++) {
                int form = hill.item(PARISH, p, FORM);
                put(papers, p, !eclipsed && isIn(of(HELD, p), form) ? form : NONE);
            }
            int who = 0;
            int hours = 0;
            for (int p = 0; p < hill.many(PARISH); p++) {
                int light = hill.portion(papers, p);
                set(SHONE, p, light);
                hours += light;
                if (at(papers, p) != NONE) {
                    who |= 1 << p;
                    set(HELD, p, of(HELD, p) & ~(1 << at(papers, p)));
                }
            }
            put(days, cells[LOGGED], hours << 6 | who);
            cells[LOGGED]++;
        }

        private void serve(Hill hill, Rules rules, int desk) {
            int parish = first(desk);
            if (parish == NONE) {
                return;
            }
            int done = of(DONE, parish) + 1;
            set(DONE, parish, done);
            if (done >= hill.item(DESK, desk, TAKES)) {
                decide(hill, rules, desk, parish);
            }
        }

        private void decide(Hill hill, Rules rules, int desk, int parish) {
            int paper = of(WAITS, parish);
            int held = of(HELD, parish);
            letters[0] = time();
            letters[1] = hour() / DAY;
            letters[2] = backlog(desk);
            letters[3] = Integer.bitCount(held);
            letters[4] = parish;
            letters[5] = paper;
            letters[6] = hill.item(PARISH, parish, ZEAL);
            leave(parish);
            set(PAID, parish, of(PAID, parish) + hill.item(DESK, desk, FEE));
            if (rules.holding == NONE || rules.worth(letters) > 0) {
                set(HELD, parish, held | 1 << paper);
            } else {
                set(REFUSED, parish, of(REFUSED, parish) + 1);
            }
        }
    }

    /** How it stood ahead of each of the latest ACTS. */
    private static final class Acts {
        int many;
        private final int[] rows = new int[ACTS_MOST * State.CELLS];
        /** Which of these rows the latest one is, counted on beyond the last. */
        private int latest;

        void forget() {
            many = 0;
        }

        void keep(State state) {
            latest++;
            System.arraycopy(state.cells, 0, rows, Math.floorMod(latest, ACTS_MOST) * State.CELLS, State.CELLS);
            many = Math.min(many + 1, ACTS_MOST);
        }

        /** Brings the latest one back: how many are left. */
        int restore(State state) {
            if (many < 1) {
                return NONE;
            }
            System.arraycopy(rows, Math.floorMod(latest, ACTS_MOST) * State.CELLS, state.cells, 0, State.CELLS);
            latest--;
            many--;
            return many;
        }
    }

    /** The rows by which what is LACKED is had soonest: they hang on what that is and the time of the day alone. */
    private static final class Routes {
        private static final int UNKNOWN = 0;
        /** What is added to HOURS (and to NONE) that are known, so that none of them is UNKNOWN. */
        private static final int TOLD = 2;
        private static final int SETS = 256;

        /** Of each set of PAPERS that are LACKED at each time of the day. */
        private final int[] known = new int[SETS * DAY];

        void forget() {
            Arrays.fill(known, UNKNOWN);
        }

        /** The fewest HOURS from this time of the day on; NONE if there is no row. */
        int hours(Hill hill, int lacks, int time) {
            return fewest(known, hill, lacks, time, 0);
        }

        /** Each of these calls lacks a PAPER less than the one that makes it. */
        private static int fewest(int[] known, Hill hill, int lacks, int time, int depth) {
            if (lacks == 0) {
                return 0;
            }
            if (depth >= PAPERS_MOST) {
                return NONE;
            }
            int cell = at(known, lacks * DAY + time);
            if (cell != UNKNOWN) {
                return cell - TOLD;
            }
            int best = NONE;
            for (int r = 0; r < hill.many(PAPER); r++) {
                if (isNext(hill, lacks, r)) {
                    int span = hill.span(r, time);
                    int rest = fewest(known, hill, lacks & ~(1 << r), (time + span) % DAY, depth + 1);
                    if (rest != NONE && (best == NONE || span + rest < best)) {
                        best = span + rest;
                    }
                }
            }
            put(known, lacks * DAY + time, best + TOLD);
            return best;
        }

        /** Whether it is LACKED, but nothing that it WANTS. */
        private static boolean isNext(Hill hill, int lacks, int paper) {
            return isIn(lacks, paper) && (hill.wants(paper) & lacks) == 0;
        }

        /** The first PAPER of the least row; NONE without one. */
        int first(Hill hill, int lacks, int time) {
            int best = fewest(known, hill, lacks, time, 0);
            for (int r = 0; r < hill.many(PAPER) && best != NONE; r++) {
                if (isNext(hill, lacks, r)) {
                    int span = hill.span(r, time);
                    int rest = fewest(known, hill, lacks & ~(1 << r), (time + span) % DAY, 0);
                    if (rest != NONE && span + rest == best) {
                        return r;
                    }
                }
            }
            return NONE;
        }

        /** The least row as digits; NONE if nothing is LACKED. */
        int row(Hill hill, int lacks, int time) {
            int row = lacks == 0 ? NONE : 0;
            int left = lacks;
            int clock = time;
            for (int i = 0; i < PAPERS_MOST && left != 0; i++) {
                int paper = first(hill, left, clock);
                if (paper == NONE) {
                    return NONE;
                }
                row = row * 10 + paper;
                clock = (clock + hill.span(paper, clock)) % DAY;
                left &= ~(1 << paper);
            }
            return row;
        }
    }

    /** The game in which each PARISH chooses a PAPER to share by. */
    private static final class Sharing {
        /** Five PARISHES that choose among five FORMS. */
        private static final int ROWS_MOST = 3125;

        final int[] choice = new int[PARISHES_MOST];
        private final int[] forms = new int[PAPERS_MOST];
        private int formsMany;
        /** Rows that rest, rising; made when they are asked for first. */
        private int[] rows;
        private int many;
        private boolean found;

        void forget() {
            found = false;
        }

        private static int formsOf(Hill hill) {
            int forms = 0;
            for (int p = 0; p < hill.many(PARISH); p++) {
                forms |= 1 << hill.item(PARISH, p, FORM);
            }
            return forms;
        }

        /** Lets all choose by this row; false if it is none. */
        boolean choose(Hill hill, int row) {
            int forms = formsOf(hill);
            int left = row;
            for (int p = hill.many(PARISH) - 1; p >= 0; p--) {
                if (row < 0 || !isIn(forms, left % 10)) {
                    return false;
                }
                put(choice, p, left % 10);
                left /= 10;
            }
            return left == 0;
        }

        /** Finds the rows that rest: how many. */
        int findRests(Hill hill) {
            if (found) {
                return many;
            }
            if (rows == null) {
                rows = new int[ROWS_MOST];
            }
            listForms(hill);
            many = 0;
            int all = 1;
            for (int p = 0; p < hill.many(PARISH); p++) {
                all *= formsMany;
            }
            for (int n = 0; n < all; n++) {
                int row = chooseNth(hill, n);
                if (isAtRest(hill)) {
                    put(rows, many, row);
                    many++;
                }
            }
            found = true;
            return many;
        }

        int rest(int i) {
            return rows != null && found && i >= 0 && i < many ? at(rows, i) : NONE;
        }

        private void listForms(Hill hill) {
            int bits = formsOf(hill);
            formsMany = 0;
            for (int r = 0; r < PAPERS_MOST; r++) {
                if (isIn(bits, r)) {
                    put(forms, formsMany, r);
                    formsMany++;
                }
            }
        }

        /** Lets all choose by the n-th row of FORMS, rising: the row. */
        private int chooseNth(Hill hill, int n) {
            int row = 0;
            int tens = 1;
            int left = n;
            for (int p = hill.many(PARISH) - 1; p >= 0 && formsMany > 0; p--) {
                put(choice, p, at(forms, left % formsMany));
                row += at(choice, p) * tens;
                tens *= 10;
                left /= formsMany;
            }
            return row;
        }

        private boolean isAtRest(Hill hill) {
            for (int p = 0; p < hill.many(PARISH); p++) {
                int own = at(choice, p);
                int most = hill.portion(choice, p);
                boolean better = false;
                for (int f = 0; f < formsMany && !better; f++) {
                    put(choice, p, at(forms, f));
                    better = hill.portion(choice, p) > most;
                }
                put(choice, p, own);
                if (better) {
                    return false;
                }
            }
            return true;
        }
    }

    /** What was SEEN at one DAWN. */
    private static final class Sights {
        int many;
        private final int[] parishes = new int[SEEN_MOST];
        private final int[] hours = new int[SEEN_MOST];
        private final int[] papers = new int[PARISHES_MOST];

        void forget() {
            many = 0;
        }

        /** How many there are then; NONE if there is no room. */
        int add(int parish, int light) {
            if (many >= SEEN_MOST) {
                return NONE;
            }
            put(parishes, many, parish);
            put(hours, many, light);
            many++;
            return many;
        }

        /** How much of what was SEEN is false, if these PARISHES (bits) held their FORMS. */
        int falsehoods(Hill hill, int set) {
            for (int p = 0; p < hill.many(PARISH); p++) {
                put(papers, p, isIn(set, p) ? hill.item(PARISH, p, FORM) : NONE);
            }
            int wrong = 0;
            for (int i = 0; i < many; i++) {
                wrong += hill.portion(papers, at(parishes, i)) != at(hours, i) ? 1 : 0;
            }
            return wrong;
        }
    }
}
