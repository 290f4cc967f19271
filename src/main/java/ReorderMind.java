/**
 * A store that can hold a few pieces, the demands on it by odds, rules for what to order, and what these are worth
 * exactly. The document ../shared/DOC.md has the words in capitals and the numbered promises.
 */
public final class ReorderMind {
    public static final int NONE = -1, BAD = -2, STATE = -3, FULL = -4, HUGE = -6;
    public static final long NO = Long.MIN_VALUE;

    private static final int NOTHING = -11, CAST = -12, PLACE = -13, SIZE = -14;
    private static final int NO_SUCH = -5, FAULTS = -10, ROW_ENDED = 100, NEVER_ORDERS = 9;

    private static final int PLAIN = 0, FRESH = 1, OWING = 2;
    private static final int MOST_CAP = 3, STOCKS = 4, DEMANDS = 4, CELLS = STOCKS * STOCKS;
    private static final int MOST_WEIGHT = 5, MOST_SUM = 6;

    /** What tell() can tell, by its numbers; the first four are places in the COSTS, too. */
    private static final int FIX = 0, EACH = 1, KEEP = 2, LACK = 3, TENTHS = 4, STOCK = 5, SEED = 6;

    /** The numbers of the RULES that are no KEPT ones. */
    private static final int THE_RULE = -1, BEST = 4;
    private static final int KEPT_RULES = 4;

    private static final int MOST_SEEN = 5, MOST_PLAN = 8, MOST_RECORD = 8;
    private static final int MOST_WITHIN = 6, MOST_AT_ONCE = 30, MOST_IN_THOUGHT = 99, MOST_GONE = 9999;
    private static final int MOST_SIGNS = 60, MOST_CLAUSES = 6;
    private static final int TAPES = 6, MOST_ITEMS = 60;
    private static final int EMPTY = -1, BYTES = 0, SHORTS = 1, INTS = 2, LONGS = 3, BOOLEANS = 4;

    private final State now = new State();
    private final State pictured = new State();
    /** Where things are tried before they are so, and where they go in thought alone. */
    private final State thought = new State();
    private boolean isPictured;
    private final Day passed = new Day();
    private final Reckoner reckoner = new Reckoner();
    private final Text text = new Text();
    private final Tape[] tapes = new Tape[TAPES];

    public ReorderMind() {
        for (int i = 0; i < TAPES; i++) {
            tapes[i] = new Tape();
        }
    }

    // ---- the store

    public int store(int kind, int cap) {
        if (!isWithin(kind, PLAIN, OWING)) return NONE;
        if (!isWithin(cap, 1, MOST_CAP)) return BAD;
        int was = now.cap;
        now.becomeNew(kind, cap);
        return was;
    }

    public int tell(int what, int v) {
        if (!isWithin(what, FIX, SEED)) return NONE;
        if (what != SEED && !isWithin(v, 0, now.mostOf(what))) return BAD;
        int was = now.numberOf(what);
        now.setNumber(what, v);
        return was;
    }

    public int weight(int demand, int w) {
        if (!isWithin(demand, 0, DEMANDS - 1)) return NONE;
        int was = now.weights[demand];
        if (!isWithin(w, 0, MOST_WEIGHT) || !isWithin(now.sum() - was + w, 1, MOST_SUM)) return BAD;
        now.weights[demand] = w;
        return was;
    }

    public int order(int stock, int a) {
        if (!now.isStock(stock)) return NONE;
        if (!now.isOrder(stock, a)) return BAD;
        int was = now.rule[stock];
        now.rule[stock] = a;
        return was;
    }

    public int feed(int sign) {
        if (!isWithin(sign, 0, 127)) return BAD;
        if (text.length >= MOST_SIGNS) return FULL;
        text.append(sign);
        return text.length;
    }

    public int read() {
        thought.copyFrom(now);
        int answer = text.tellTo(thought);
        text.length = 0;
        if (answer > 0) {
            now.copyFrom(thought);
        }
        return answer;
    }

    public int keep(int i) {
        if (!isWithin(i, 0, KEPT_RULES - 1)) return NONE;
        int was = now.isKept[i] ? 1 : 0;
        now.isKept[i] = true;
        System.arraycopy(now.rule, 0, now.kept, i * STOCKS, STOCKS);
        return was;
    }

    public int use(int i) {
        if (!isWithin(i, 0, KEPT_RULES - 1)) return NONE;
        if (!now.isKept[i]) return STATE;
        return now.becomeRule(now.kept, i * STOCKS);
    }

    public int told(int what) {
        switch (what) {
            case 0: return now.kind;
            case 1: return now.cap;
            case 2: return now.stock;
            case 3: return now.costs[FIX];
            case 4: return now.costs[EACH];
            case 5: return now.costs[KEEP];
            case 6: return now.costs[LACK];
            case 7: return now.tenths;
            case 8: return now.sum();
            case 9: return now.seed;
            case 10: return now.balance;
            case 11: return now.gone;
            case 12: return now.weights[0];
            case 13: return now.weights[1];
            case 14: return now.weights[2];
            case 15: return now.weights[3];
            default: return NONE;
        }
    }

    public int ruled(int rule, int stock) {
        int refusal = refusalOf(rule, now.isStock(stock));
        if (refusal != 0) return refusal;
        reckonBy(rule);
        return reckoner.rule[stock];
    }

    // ---- rows, worth

    public long row(int stock, int a, int t, int part) {
        if (!now.isStock(stock) || !now.isOrder(stock, a) || !now.isStock(t)) return NO;
        return partOf(reckoner.weightOfMove(now, stock, a, t), now.sum(), part);
    }

    public long cost(int stock, int a, int part) {
        if (!now.isStock(stock) || !now.isOrder(stock, a)) return NO;
        return partOf(reckoner.spentBySum(now, stock, a), now.sum(), part);
    }

    public long worth(int rule, int stock, int part) {
        if (refusalOf(rule, now.isStock(stock)) != 0) return NO;
        reckonBy(rule);
        reckoner.findWorth(now);
        return partOf(reckoner.worthAbove[stock], reckoner.worthBelow, part);
    }

    public long act(int rule, int stock, int a, int part) {
        if (refusalOf(rule, now.isStock(stock)) != 0 || !now.isOrder(stock, a)) return NO;
        reckonBy(rule);
        reckoner.findWorth(now);
        return partOf(reckoner.actAbove(now, stock, a), reckoner.actBelow(now), part);
    }

    public int better(int rule, int stock) {
        int refusal = refusalOf(rule, now.isStock(stock));
        if (refusal != 0) return refusal;
        reckonBy(rule);
        reckoner.findWorth(now);
        return reckoner.betterAt(now, stock);
    }

    public int round() {
        reckonBy(THE_RULE);
        int others = reckoner.improve(now);
        now.becomeRule(reckoner.rule, 0);
        return others;
    }

    public int best(int what) {
        if (!isWithin(what, 0, 1)) return NONE;
        reckonBy(BEST);
        return what == 0 ? reckoner.rounds : now.othersThan(reckoner.rule, 0);
    }

    public long regret(int stock, int part) {
        if (!now.isStock(stock)) return NO;
        reckonBy(THE_RULE);
        reckoner.findWorth(now);
        long above = reckoner.worthAbove[stock];
        long below = reckoner.worthBelow;
        reckonBy(BEST);
        long bestAbove = reckoner.worthAbove[stock];
        long bestBelow = reckoner.worthBelow;
        return partOf(above * bestBelow - bestAbove * below, below * bestBelow, part);
    }

    // ---- the long run, limits

    public int closed(int rule, int i) {
        int refusal = refusalOf(rule, i >= -1);
        if (refusal != 0) return refusal;
        reckonBy(rule);
        reckoner.findReach(now);
        return i == -1 ? reckoner.closedSets(now) : reckoner.closedSet(now, i);
    }

    public long share(int rule, int t, int part) {
        if (refusalOf(rule, now.isStock(t)) != 0) return NO;
        reckonBy(rule);
        if (!reckoner.findParts(now)) return NO;
        return partOf(reckoner.partAbove[t], reckoner.partBelow, part);
    }

    public long daily(int rule, int part) {
        if (refusalOf(rule, true) != 0) return NO;
        reckonBy(rule);
        if (!reckoner.findParts(now)) return NO;
        return partOf(reckoner.dailyAbove(now), reckoner.partBelow * now.sum(), part);
    }

    public int limits(int rule, int what) {
        int refusal = refusalOf(rule, isWithin(what, 0, 1));
        if (refusal != 0) return refusal;
        reckonBy(rule);
        int low = reckoner.lowLimit(now);
        if (low < 0) return low == NO_SUCH ? NO_SUCH : NEVER_ORDERS;
        return what == 0 ? low : low + reckoner.orderAt(low);
    }

    // ---- days ahead

    public long within(int n, int stock, int part) {
        if (!isWithin(n, 0, MOST_WITHIN) || !now.isStock(stock)) return NO;
        reckoner.findWithin(now, n);
        return partOf(reckoner.withinAbove[stock], reckoner.withinBelow, part);
    }

    public int first(int n, int stock) {
        if (!now.isStock(stock)) return NONE;
        if (!isWithin(n, 1, MOST_WITHIN)) return BAD;
        reckoner.findWithin(now, n);
        return reckoner.firsts[stock];
    }

    public int looks() {
        reckonBy(BEST);
        for (int n = 1; n <= MOST_WITHIN; n++) {
            reckoner.findWithin(now, n);
            if (reckoner.firstsAreBest(now)) return n;
        }
        return NO_SUCH;
    }

    public int see(int stock, int a) {
        if (stock == -1) {
            now.seen.size = 0;
            return 0;
        }
        if (!now.isStock(stock)) return NONE;
        if (!now.isOrder(stock, a)) return BAD;
        if (now.seen.isFull()) return FULL;
        now.seen.add(stock, a, 0);
        return now.seen.size;
    }

    public int fits(int sort, int what) {
        if (!isWithin(sort, 0, 2) || !isWithin(what, 0, 1)) return NONE;
        int number = sort == 0 ? TENTHS : sort == 1 ? FIX : LACK;
        int most = now.mostOf(number);
        int fitting = 0;
        int least = NO_SUCH;
        thought.copyFrom(now);
        for (int v = 0; v <= most; v++) {
            thought.setNumber(number, v);
            reckoner.findBest(thought);
            if (!reckoner.seenAreBest(thought)) continue;
            fitting++;
            if (least == NO_SUCH) {
                least = v;
            }
        }
        return what == 0 ? fitting : least;
    }

    // ---- truly

    public int day(int n) {
        if (!isWithin(n, 1, MOST_AT_ONCE)) return BAD;
        if (now.gone + n > MOST_GONE) return FULL;
        thought.copyFrom(now);
        for (int i = 0; i < n; i++) {
            passed.goDrawn(thought);
            long balance = (long) thought.balance - passed.spent;
            if (!isInt(balance)) return HUGE;
            thought.balance = (int) balance;
            thought.gone++;
        }
        now.copyFrom(thought);
        return now.stock;
    }

    public int pay(int v) {
        return becomeBalance((long) now.balance + v);
    }

    public int times(int k) {
        return becomeBalance((long) now.balance * k);
    }

    public int total(long n, long v) {
        if (!isProductLong(n, now.balance)) return HUGE;
        long balances = n * now.balance;
        long together = balances + v;
        boolean isLong = ((balances ^ together) & (v ^ together)) >= 0;
        return isLong && isInt(together) ? 1 : HUGE;
    }

    public int record(int i, int what) {
        // How many there are is asked of no DAY, so that what doesn't matter.
        if (i == -1) return now.latest.size;
        if (!isWithin(i, 0, now.latest.size - 1) || !isWithin(what, 0, 2)) return NONE;
        return now.latest.at(i, what);
    }

    public long likely(int part) {
        long above = 1;
        long below = 1;
        for (int i = 0; i < now.latest.size; i++) {
            above *= now.weightOf(now.latest.at(i, 2));
            below *= now.sum();
        }
        return partOf(above, below, part);
    }

    public int would(int rule, int seed, int n, int what) {
        int refusal = refusalOf(rule, isWithin(what, 0, 3));
        if (refusal != 0) return refusal;
        if (!isWithin(n, 0, MOST_IN_THOUGHT)) return BAD;
        reckonBy(rule);
        thought.copyFrom(now);
        thought.becomeRule(reckoner.rule, 0);
        thought.seed = seed;
        int spent = 0;
        int lost = 0;
        int orders = 0;
        for (int i = 0; i < n; i++) {
            passed.goDrawn(thought);
            spent += passed.spent;
            lost += passed.lost;
            orders += passed.ordered > 0 ? 1 : 0;
        }
        if (what == 0) return thought.stock;
        if (what == 1) return spent;
        return what == 2 ? lost : orders;
    }

    public int plan(int what, int n) {
        if (what == -1) {
            now.planned.size = 0;
            return 0;
        }
        if (!isWithin(what, 0, 2)) return NONE;
        if (!isWithin(n, 0, 3)) return BAD;
        if (now.planned.isFull()) return FULL;
        now.planned.add(what, n, 0);
        return now.planned.size;
    }

    public int ends(int what) {
        if (!isWithin(what, 0, 1)) return NONE;
        thought.copyFrom(now);
        int spent = 0;
        for (int i = 0; i < thought.planned.size; i++) {
            spent += goPlanned(thought.planned.at(i, 0), thought.planned.at(i, 1));
        }
        return what == 0 ? thought.stock : spent;
    }

    // ---- judging, the image, tapes

    public int judge(int rule, int tape, int i) {
        Tape told = tapeAt(tape);
        int refusal = refusalOf(rule, told != null);
        if (refusal != 0) return refusal;
        if (told == null) return NONE;
        if (told.sort != EMPTY && told.sort != BYTES) return CAST;
        reckonBy(rule);
        for (int s = 0; s <= now.cap; s++) {
            // The place is held against the end first: behind a far one i + s would no longer be an int.
            if (i < 0 || i >= told.size - s) return ROW_ENDED + s;
            if (told.items[i + s] != reckoner.rule[s]) return s;
        }
        return NO_SUCH;
    }

    public int image() {
        pictured.copyFrom(now);
        isPictured = true;
        return now.gone;
    }

    public int undo() {
        if (!isPictured) return STATE;
        now.copyFrom(pictured);
        return now.gone;
    }

    public int taken(int k) {
        if (!isWithin(k, PLAIN, OWING)) return BAD;
        return k == PLAIN || k == now.kind ? now.kind : CAST;
    }

    public int count(int what) {
        switch (what) {
            case 0: return text.length;
            case 1: return now.seen.size;
            case 2: return now.planned.size;
            case 3: return now.keptRules();
            case 4: return now.latest.size;
            default: return BAD;
        }
    }

    public int tape(int tape, int sort, int n) {
        Tape one = tapeAt(tape);
        if (one == null) return NONE;
        if (sort == EMPTY) {
            one.become(EMPTY, 0);
            return 1;
        }
        if (!isWithin(sort, BYTES, BOOLEANS) || n > MOST_ITEMS) return BAD;
        if (n < 0) return SIZE;
        one.become(sort, n);
        return 1;
    }

    public int item(int tape, int i, long v) {
        Tape one = tapeAt(tape);
        if (one == null) return NONE;
        if (one.sort == EMPTY) return NOTHING;
        if (!isWithin(i, 0, one.size - 1)) return PLACE;
        one.items[i] = one.asItem(v);
        return 1;
    }

    public long peek(int tape, int i) {
        Tape one = tapeAt(tape);
        if (one == null || !isWithin(i, 0, one.size - 1)) return NO;
        return one.items[i];
    }

    public int shift(int tape, int i, int other, int j, int n) {
        Tape from = tapeAt(tape);
        Tape to = tapeAt(other);
        if (from == null || to == null) return NONE;
        if (from.sort == EMPTY || to.sort == EMPTY) return NOTHING;
        if (from.sort != to.sort) return CAST;
        if (!from.hasRow(i, n) || !to.hasRow(j, n)) return PLACE;
        System.arraycopy(from.items, i, to.items, j, n);
        return n;
    }

    // ---- what the calls share

    private static boolean isWithin(int v, int least, int most) {
        return v >= least && v <= most;
    }

    private static boolean isInt(long v) {
        return v == (int) v;
    }

    private static boolean isProductLong(long n, int k) {
        if (k == 0) return true;
        // The least long has no other sign: that product wraps to itself, so that dividing back would not tell.
        if (k == -1) return n == 0 || n != -n;
        return n * k / k == n;
    }

    /** A part of a fraction in lowest terms: 0 is above the line, 1 below it. */
    private static long partOf(long above, long below, int part) {
        if (!isWithin(part, 0, 1)) return NO;
        long divisor = commonDivisor(Math.abs(above), below);
        if (divisor <= 0) return NO;
        return (part == 0 ? above : below) / divisor;
    }

    private static long commonDivisor(long a, long b) {
        // Longs need less than a hundred steps.
        for (int i = 0; i < 200 && b != 0; i++) {
            long rest = a % b;
            a = b;
            b = rest;
        }
        return a;
    }

    /** NONE, STATE, or 0 if the RULE is there; other numbers of the call count ahead of STATE. */
    private int refusalOf(int rule, boolean othersThere) {
        if (!isWithin(rule, THE_RULE, BEST) || !othersThere) return NONE;
        return isWithin(rule, 0, KEPT_RULES - 1) && !now.isKept[rule] ? STATE : 0;
    }

    private void reckonBy(int rule) {
        if (rule == BEST) {
            reckoner.findBest(now);
        } else if (isWithin(rule, 0, KEPT_RULES - 1)) {
            reckoner.takeRule(now.kept, rule * STOCKS);
        } else {
            reckoner.takeRule(now.rule, 0);
        }
    }

    private int becomeBalance(long v) {
        if (!isInt(v)) return HUGE;
        now.balance = (int) v;
        return 1;
    }

    /** What a row of the PLAN COSTS, gone in thought. */
    private int goPlanned(int what, int n) {
        if (what == 0) {
            passed.go(thought, thought.stock, thought.orderAt(thought.stock), n);
            thought.stock = passed.then;
            return passed.spent;
        }
        if (what == 1) {
            thought.stock = Math.min(n, thought.cap);
        } else if (isWithin(n, 0, KEPT_RULES - 1) && thought.isKept[n]) {
            thought.becomeRule(thought.kept, n * STOCKS);
        }
        return 0;
    }

    private Tape tapeAt(int tape) {
        return isWithin(tape, 0, TAPES - 1) ? tapes[tape] : null;
    }

    /** All that THE IMAGE holds: how things are, were, or would be. */
    private static final class State {
        int kind = PLAIN;
        int cap = MOST_CAP;
        int stock;
        int tenths = 5;
        int seed = 1;
        int balance;
        int gone;
        final int[] costs = {2, 1, 1, 5};
        final int[] weights = {1, 1, 1, 1};
        final int[] rule = new int[STOCKS];
        final int[] kept = new int[KEPT_RULES * STOCKS];
        final boolean[] isKept = new boolean[KEPT_RULES];
        final Rows seen = new Rows(MOST_SEEN);
        final Rows planned = new Rows(MOST_PLAN);
        final Rows latest = new Rows(MOST_RECORD);

        void copyFrom(State other) {
            kind = other.kind;
            cap = other.cap;
            stock = other.stock;
            tenths = other.tenths;
            seed = other.seed;
            balance = other.balance;
            gone = other.gone;
            System.arraycopy(other.costs, 0, costs, 0, costs.length);
            System.arraycopy(other.weights, 0, weights, 0, DEMANDS);
            System.arraycopy(other.rule, 0, rule, 0, STOCKS);
            System.arraycopy(other.kept, 0, kept, 0, KEPT_RULES * STOCKS);
            for (int i = 0; i < KEPT_RULES; i++) {
                isKept[i] = other.isKept[i];
            }
            seen.copyFrom(other.seen);
            planned.copyFrom(other.planned);
            latest.copyFrom(other.latest);
        }

        void becomeNew(int newKind, int newCap) {
            kind = newKind;
            cap = newCap;
            stock = 0;
            for (int s = 0; s < STOCKS; s++) {
                rule[s] = 0;
            }
            for (int i = 0; i < KEPT_RULES; i++) {
                isKept[i] = false;
            }
            seen.size = 0;
            planned.size = 0;
            latest.size = 0;
        }

        boolean isStock(int s) {
            return s >= 0 && s <= cap;
        }

        boolean isOrder(int s, int a) {
            return a >= 0 && a <= cap - s;
        }

        int orderAt(int s) {
            return s >= 0 && s < STOCKS ? rule[s] : 0;
        }

        int weightOf(int demand) {
            return demand >= 0 && demand < DEMANDS ? weights[demand] : 0;
        }

        int sum() {
            return weights[0] + weights[1] + weights[2] + weights[3];
        }

        int mostOf(int what) {
            if (what == STOCK) return cap;
            return what == LACK ? 20 : 9;
        }

        int numberOf(int what) {
            if (what >= FIX && what <= LACK) return costs[what];
            if (what == TENTHS) return tenths;
            return what == STOCK ? stock : seed;
        }

        void setNumber(int what, int v) {
            if (what >= FIX && what <= LACK) {
                costs[what] = v;
            } else if (what == TENTHS) {
                tenths = v;
            } else if (what == STOCK) {
                stock = v;
            } else {
                seed = v;
            }
        }

        int keptRules() {
            int there = 0;
            for (int i = 0; i < KEPT_RULES; i++) {
                there += isKept[i] ? 1 : 0;
            }
            return there;
        }

        /** How many ORDERS of THE RULE are others than those in a row, from a place on. */
        int othersThan(int[] orders, int from) {
            if (from < 0 || from > orders.length - STOCKS) return 0;
            int others = 0;
            for (int s = 0; s <= cap; s++) {
                others += orders[from + s] != rule[s] ? 1 : 0;
            }
            return others;
        }

        int becomeRule(int[] orders, int from) {
            if (from < 0 || from > orders.length - STOCKS) return 0;
            int others = othersThan(orders, from);
            System.arraycopy(orders, from, rule, 0, STOCKS);
            return others;
        }

        int drawDemand() {
            int sum = sum();
            seed = seed * 1103515245 + 12345;
            int drawn = sum > 0 ? (seed >>> 9) % sum : 0;
            int upTo = 0;
            for (int d = 0; d < DEMANDS - 1; d++) {
                upTo += weights[d];
                if (upTo > drawn) return d;
            }
            return DEMANDS - 1;
        }
    }

    /** Up to a limit of rows of three numbers each, the oldest first. */
    private static final class Rows {
        static final int WIDTH = 3;
        final int limit;
        final int[] items;
        int size;

        Rows(int limit) {
            this.limit = Math.max(limit, 1);
            items = new int[this.limit * WIDTH];
        }

        boolean isFull() {
            return size >= limit;
        }

        void add(int a, int b, int c) {
            if (isFull()) return;
            items[size * WIDTH] = a;
            items[size * WIDTH + 1] = b;
            items[size * WIDTH + 2] = c;
            size++;
        }

        void dropOldest() {
            if (size <= 0) return;
            size--;
            System.arraycopy(items, WIDTH, items, 0, size * WIDTH);
        }

        int at(int i, int column) {
            if (i < 0 || i >= size || column < 0 || column >= WIDTH) return 0;
            return items[i * WIDTH + column];
        }

        /** Of rows with the same limit. */
        void copyFrom(Rows other) {
            if (other.limit != limit) return;
            size = other.size;
            System.arraycopy(other.items, 0, items, 0, items.length);
        }
    }

    /** What one DAY comes to. */
    private static final class Day {
        int ordered;
        int lost;
        int spent;
        int then;

        void go(State s, int stock, int order, int demand) {
            int there = stock + order;
            int sold = there < demand ? there : demand;
            int left = there - sold;
            ordered = order;
            lost = demand - sold;
            then = s.kind == FRESH ? left - left / 2 : left;
            int lacked = s.costs[LACK] * lost;
            spent = (order > 0 ? s.costs[FIX] : 0) + s.costs[EACH] * order + s.costs[KEEP] * then
                    + (s.kind == OWING && stock == 0 ? 2 * lacked : lacked);
        }

        /** By the RULE of s, with a DEMAND drawn; BALANCE and GONE are left to those who look at their bounds. */
        void goDrawn(State s) {
            int stock = s.stock;
            int demand = s.drawDemand();
            go(s, stock, s.orderAt(stock), demand);
            s.stock = then;
            if (s.latest.isFull()) {
                s.latest.dropOldest();
            }
            s.latest.add(stock, ordered, demand);
        }
    }

    /**
     * What a RULE comes to, in whole numbers above one number below the line. There are always four rows and columns:
     * those of STOCKS above CAP are as in a unit matrix, so that no determinant is another one by them.
     */
    private static final class Reckoner {
        /** More than there are RULES, of which none comes twice on the way to BEST. */
        static final int MOST_ROUNDS = 100;

        final Day day = new Day();
        final int[] rule = new int[STOCKS];
        final int[] next = new int[STOCKS];
        final long[] matrix = new long[CELLS];
        final long[] changed = new long[CELLS];
        final long[] right = new long[STOCKS];
        final long[] worthAbove = new long[STOCKS];
        long worthBelow = 1;
        int rounds;
        final int[] reach = new int[STOCKS];
        final long[] partAbove = new long[STOCKS];
        long partBelow = 1;
        final long[] withinAbove = new long[STOCKS];
        final long[] withinNext = new long[STOCKS];
        long withinBelow = 1;
        final int[] firsts = new int[STOCKS];

        void takeRule(int[] orders, int from) {
            if (from < 0 || from > orders.length - STOCKS) return;
            System.arraycopy(orders, from, rule, 0, STOCKS);
        }

        int orderAt(int s) {
            return s >= 0 && s < STOCKS ? rule[s] : 0;
        }

        private static long cellAt(long[] row, int i) {
            return i >= 0 && i < row.length ? row[i] : 0;
        }

        // ---- rows

        /** The WEIGHTS, together, of the DEMANDS by which a DAY ends at t. */
        long weightOfMove(State s, int stock, int a, int t) {
            long weight = 0;
            for (int d = 0; d < DEMANDS; d++) {
                day.go(s, stock, a, d);
                weight += day.then == t ? s.weights[d] : 0;
            }
            return weight;
        }

        /** What a DAY COSTS by ODDS, times SUM. */
        long spentBySum(State s, int stock, int a) {
            long spent = 0;
            for (int d = 0; d < DEMANDS; d++) {
                day.go(s, stock, a, d);
                spent += (long) s.weights[d] * day.spent;
            }
            return spent;
        }

        // ---- worth

        /** WORTH at each STOCK, by Cramer's rule: (10 SUM - TENTHS moves) WORTH = 10 SUM costs. */
        void findWorth(State s) {
            fillMatrix(s, 10, s.tenths);
            for (int stock = 0; stock < STOCKS; stock++) {
                right[stock] = stock <= s.cap ? 10 * spentBySum(s, stock, rule[stock]) : 0;
            }
            worthBelow = determinant(matrix);
            for (int stock = 0; stock < STOCKS; stock++) {
                System.arraycopy(matrix, 0, changed, 0, CELLS);
                for (int i = 0; i < STOCKS; i++) {
                    changed[i * STOCKS + stock] = right[i];
                }
                worthAbove[stock] = determinant(changed);
            }
        }

        /** In the matrix: whole times SUM where a STOCK meets itself, less so many times the WEIGHTS of the moves. */
        private void fillMatrix(State s, long whole, long tenths) {
            for (int i = 0; i < CELLS; i++) {
                matrix[i] = i % (STOCKS + 1) == 0 ? 1 : 0;
            }
            for (int stock = 0; stock <= s.cap; stock++) {
                matrix[stock * STOCKS + stock] = whole * s.sum();
                for (int d = 0; d < DEMANDS; d++) {
                    day.go(s, stock, rule[stock], d);
                    if (s.isStock(day.then)) {
                        matrix[stock * STOCKS + day.then] -= tenths * s.weights[d];
                    }
                }
            }
        }

        /** By the pairs of columns: those of the two upper rows with what the two lower rows have beside them. */
        private static long determinant(long[] m) {
            return pairOf(m, 0, 0, 1) * pairOf(m, 2, 2, 3) - pairOf(m, 0, 0, 2) * pairOf(m, 2, 1, 3)
                    + pairOf(m, 0, 0, 3) * pairOf(m, 2, 1, 2) + pairOf(m, 0, 1, 2) * pairOf(m, 2, 0, 3)
                    - pairOf(m, 0, 1, 3) * pairOf(m, 2, 0, 2) + pairOf(m, 0, 2, 3) * pairOf(m, 2, 0, 1);
        }

        private static long pairOf(long[] m, int row, int i, int j) {
            int upper = row * STOCKS;
            int lower = upper + STOCKS;
            return cellAt(m, upper + i) * cellAt(m, lower + j) - cellAt(m, upper + j) * cellAt(m, lower + i);
        }

        /** ACT by the RULE whose WORTH was found last, above actBelow. */
        long actAbove(State s, int stock, int a) {
            long above = 0;
            for (int d = 0; d < DEMANDS; d++) {
                day.go(s, stock, a, d);
                above += s.weights[d] * (10 * worthBelow * day.spent + s.tenths * cellAt(worthAbove, day.then));
            }
            return above;
        }

        long actBelow(State s) {
            return 10 * s.sum() * worthBelow;
        }

        private boolean isActWorth(State s, int stock, int a) {
            return actAbove(s, stock, a) == 10 * s.sum() * cellAt(worthAbove, stock);
        }

        int betterAt(State s, int stock) {
            int better = orderAt(stock);
            long least = actAbove(s, stock, better);
            for (int a = 0; a <= s.cap - stock; a++) {
                long above = actAbove(s, stock, a);
                if (above < least) {
                    least = above;
                    better = a;
                }
            }
            return better;
        }

        /** A ROUND of the RULE: how many ORDERS are others; WORTH stays that of the RULE ahead. */
        int improve(State s) {
            findWorth(s);
            int others = 0;
            for (int stock = 0; stock <= s.cap; stock++) {
                next[stock] = betterAt(s, stock);
                others += next[stock] != rule[stock] ? 1 : 0;
            }
            for (int stock = 0; stock <= s.cap; stock++) {
                rule[stock] = next[stock];
            }
            return others;
        }

        /** The RULE becomes BEST, and its WORTH is found: the last ROUND changes nothing. */
        void findBest(State s) {
            takeRule(s.rule, 0);
            rounds = 0;
            while (rounds < MOST_ROUNDS && improve(s) > 0) {
                rounds++;
            }
        }

        boolean seenAreBest(State s) {
            for (int i = 0; i < s.seen.size; i++) {
                if (!isActWorth(s, s.seen.at(i, 0), s.seen.at(i, 1))) return false;
            }
            return true;
        }

        // ---- the long run, limits

        /** For each STOCK the bits of those that one comes to on one or more DAYS. */
        void findReach(State s) {
            for (int stock = 0; stock <= s.cap; stock++) {
                reach[stock] = 0;
                for (int t = 0; t <= s.cap; t++) {
                    reach[stock] |= weightOfMove(s, stock, rule[stock], t) > 0 ? 1 << t : 0;
                }
            }
            for (int over = 0; over <= s.cap; over++) {
                for (int stock = 0; stock <= s.cap; stock++) {
                    if ((reach[stock] >> over & 1) != 0) {
                        reach[stock] |= reach[over];
                    }
                }
            }
        }

        private boolean isClosed(State s, int set) {
            for (int stock = 0; stock <= s.cap; stock++) {
                if ((set >> stock & 1) != 0 && reach[stock] != set) return false;
            }
            return true;
        }

        int closedSets(State s) {
            int sets = 0;
            for (int set = 1; set < 1 << (s.cap + 1); set++) {
                sets += isClosed(s, set) ? 1 : 0;
            }
            return sets;
        }

        int closedSet(State s, int i) {
            int ahead = 0;
            for (int set = 1; set < 1 << (s.cap + 1); set++) {
                if (!isClosed(s, set)) continue;
                if (ahead == i) return set;
                ahead++;
            }
            return NO_SUCH;
        }

        /**
         * PART of each STOCK, if there is one CLOSED set alone: these are to each other as the determinants of SUM less
         * moves, each without the row and the column of that STOCK (the Markov chain tree theorem).
         */
        boolean findParts(State s) {
            findReach(s);
            if (closedSets(s) != 1) return false;
            fillMatrix(s, 1, 1);
            partBelow = 0;
            for (int stock = 0; stock <= s.cap; stock++) {
                System.arraycopy(matrix, 0, changed, 0, CELLS);
                for (int i = 0; i < STOCKS; i++) {
                    changed[stock * STOCKS + i] = i == stock ? 1 : 0;
                }
                partAbove[stock] = determinant(changed);
                partBelow += partAbove[stock];
            }
            return partBelow > 0;
        }

        long dailyAbove(State s) {
            long above = 0;
            for (int stock = 0; stock <= s.cap; stock++) {
                above += partAbove[stock] * spentBySum(s, stock, rule[stock]);
            }
            return above;
        }

        /** The low one of the LIMITS; -1 if the RULE never orders, NO_SUCH if it has none. */
        int lowLimit(State s) {
            int low = -1;
            for (int stock = 0; stock <= s.cap; stock++) {
                if (rule[stock] > 0) {
                    low = stock;
                }
            }
            for (int stock = 0; stock < low; stock++) {
                if (stock + rule[stock] != low + rule[low]) return NO_SUCH;
            }
            return low;
        }

        // ---- days ahead

        /** WITHIN n DAYS at each STOCK, and FIRST of them. */
        void findWithin(State s, int n) {
            withinBelow = 1;
            for (int stock = 0; stock < STOCKS; stock++) {
                withinAbove[stock] = 0;
            }
            for (int i = 0; i < n && i < MOST_WITHIN; i++) {
                for (int stock = 0; stock <= s.cap; stock++) {
                    goAhead(s, stock);
                }
                System.arraycopy(withinNext, 0, withinAbove, 0, STOCKS);
                withinBelow *= 10 * s.sum();
            }
        }

        private void goAhead(State s, int stock) {
            for (int a = 0; a <= s.cap - stock; a++) {
                long above = 0;
                for (int d = 0; d < DEMANDS; d++) {
                    day.go(s, stock, a, d);
                    above += s.weights[d] * (10 * withinBelow * day.spent + s.tenths * cellAt(withinAbove, day.then));
                }
                if (a == 0 || above < withinNext[stock]) {
                    withinNext[stock] = above;
                    firsts[stock] = a;
                }
            }
        }

        /** Whether FIRST, found last, is as good as BEST at all STOCKS; BEST was found ahead. */
        boolean firstsAreBest(State s) {
            for (int stock = 0; stock <= s.cap; stock++) {
                if (!isActWorth(s, stock, firsts[stock])) return false;
            }
            return true;
        }
    }

    /** THE TEXT. */
    private static final class Text {
        final byte[] signs = new byte[MOST_SIGNS];
        int length;
        /** How far the reading came; where it fails, this is the FAULT. */
        int place;

        void append(int sign) {
            if (length >= MOST_SIGNS) return;
            signs[length] = (byte) sign;
            length++;
        }

        /** How many CLAUSES, or -10 less the FAULT: then s is told a part alone. */
        int tellTo(State s) {
            place = 0;
            for (int clauses = 1; clauses <= MOST_CLAUSES; clauses++) {
                if (!tellClause(s)) break;
                if (place == length) return clauses;
                if (clauses == MOST_CLAUSES || signHere() != ';') break;
                place++;
            }
            return FAULTS - place;
        }

        private int signHere() {
            return place >= 0 && place < length && place < MOST_SIGNS ? signs[place] : -1;
        }

        private boolean tellClause(State s) {
            int letter = signHere();
            if (letter != 'w' && letter != 'c' && letter != 'g' && letter != 'r') return false;
            place++;
            if (letter == 'w') return tellWeights(s);
            if (letter == 'c') return tellCosts(s);
            return letter == 'g' ? tellTenths(s) : tellRule(s);
        }

        /** The digit that comes, up to the most; -1 if there is none. */
        private int takeDigit(int most) {
            int digit = signHere() - '0';
            if (digit < 0 || digit > most) return -1;
            place++;
            return digit;
        }

        private boolean tellWeights(State s) {
            for (int d = 0; d < DEMANDS; d++) {
                int digit = takeDigit(MOST_WEIGHT);
                if (digit < 0) return false;
                s.weights[d] = digit;
            }
            if (isWithin(s.sum(), 1, MOST_SUM)) return true;
            place--;
            return false;
        }

        private boolean tellCosts(State s) {
            for (int i = FIX; i <= LACK; i++) {
                int digit = takeDigit(9);
                if (digit < 0) return false;
                s.costs[i] = digit;
            }
            return true;
        }

        private boolean tellTenths(State s) {
            int digit = takeDigit(9);
            if (digit < 0) return false;
            s.tenths = digit;
            return true;
        }

        private boolean tellRule(State s) {
            for (int stock = 0; stock <= s.cap; stock++) {
                int digit = takeDigit(s.cap - stock);
                if (digit < 0) return false;
                s.rule[stock] = digit;
            }
            return true;
        }
    }

    /** A row of one sort, or nothing. */
    private static final class Tape {
        int sort = EMPTY;
        int size;
        final long[] items = new long[MOST_ITEMS];

        void become(int newSort, int n) {
            sort = newSort;
            size = n < 0 ? 0 : n > MOST_ITEMS ? MOST_ITEMS : n;
            for (int i = 0; i < MOST_ITEMS; i++) {
                items[i] = 0;
            }
        }

        boolean hasRow(int from, int n) {
            return n >= 0 && n <= size && from >= 0 && from <= size - n;
        }

        /** As much of v as an item has. */
        long asItem(long v) {
            if (sort == BYTES) return (byte) v;
            if (sort == SHORTS) return (short) v;
            if (sort == INTS) return (int) v;
            return sort == LONGS || v == 0 ? v : 1;
        }
    }
}
