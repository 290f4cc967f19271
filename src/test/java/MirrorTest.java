import java.util.Random;

/** Runs of calls with drawn numbers on a ReorderMind and on the Mirror: the answers must be the same. */
public final class MirrorTest {
    private static final int RUNS = 400, CALLS = 512, KINDS_OF_CALLS = 47;
    private static final int[] ODD = {Integer.MIN_VALUE, Integer.MIN_VALUE + 1, -1000, -2, 60, 61, 99, 100, 127, 128,
        1000, Integer.MAX_VALUE - 1, Integer.MAX_VALUE};
    private static final long[] ODD_LONGS = {Long.MIN_VALUE, Long.MIN_VALUE + 1, Long.MAX_VALUE, -1, 0, 1, 2,
        Integer.MIN_VALUE, Integer.MAX_VALUE, 1L << 31, 1L << 32, -(1L << 32), 255, 256, 128, 32768, 65536};

    private final Random random;
    private final ReorderMind mind = new ReorderMind();
    private final Mirror mirror = new Mirror();
    private long got;
    private long want;
    private String call;

    private MirrorTest(long seed) {
        random = new Random(seed);
    }

    /** Mostly from least to most, at times one beside these, at times far off. */
    private int near(int least, int most) {
        int sort = random.nextInt(40);
        if (sort == 0) return ODD[random.nextInt(ODD.length)];
        if (sort == 1) return least - 1;
        if (sort == 2) return most + 1;
        return least + random.nextInt(most - least + 1);
    }

    private long anyLong() {
        int sort = random.nextInt(4);
        if (sort == 0) return random.nextLong();
        if (sort == 1) return ODD_LONGS[random.nextInt(ODD_LONGS.length)];
        return sort == 2 ? random.nextInt() : near(-3, 3);
    }

    private int anyInt() {
        int sort = random.nextInt(3);
        if (sort == 0) return random.nextInt();
        return sort == 1 ? ODD[random.nextInt(ODD.length)] : near(-100, 100);
    }

    private void is(String name, long got, long want, long... numbers) {
        this.got = got;
        this.want = want;
        StringBuilder told = new StringBuilder(name).append('(');
        for (int i = 0; i < numbers.length; i++) told.append(i > 0 ? ", " : "").append(numbers[i]);
        call = told.append(')').toString();
    }

    private String clause() {
        int sort = random.nextInt(5);
        StringBuilder one = new StringBuilder(sort < 4 ? "" + "wcgr".charAt(sort) : "" + (char) random.nextInt(128));
        int digits = sort < 2 ? 4 : sort == 3 ? 1 + mind.told(1) : 1;
        for (int i = 0; i < digits; i++) {
            int most = sort == 0 ? 2 : sort == 3 ? Math.max(0, mind.told(1) - i) : 9;
            one.append((char) ('0' + Math.max(0, near(0, most) % 20)));
        }
        if (random.nextInt(30) == 0) one.setLength(one.length() - 1);
        if (random.nextInt(30) == 0) one.append((char) random.nextInt(128));
        return one.toString();
    }

    /** A whole text, fed and read. */
    private boolean readText(Checks checks, String where) {
        StringBuilder whole = new StringBuilder(clause());
        for (int i = random.nextInt(7); i > 0; i--) whole.append(random.nextInt(40) > 0 ? ';' : ':').append(clause());
        if (random.nextInt(30) == 0) whole.append(';');
        if (random.nextInt(30) == 0) whole.append("g1;".repeat(20));
        if (random.nextInt(30) == 0) whole.setLength(0);
        boolean same = true;
        for (int i = 0; i < whole.length(); i++) {
            int sign = whole.charAt(i);
            same &= compare(checks, where, mind.feed(sign), mirror.feed(sign), "feed(" + sign + ")");
        }
        return same & compare(checks, where, mind.read(), mirror.read(), "read() of " + whole);
    }

    private static boolean compare(Checks checks, String where, long got, long want, String call) {
        checks.due(where + call, got, want);
        return got == want;
    }

    private boolean step(Checks checks, String where) {
        if (random.nextInt(25) == 0) return readText(checks, where);
        int r = near(-1, 4), s = near(0, 3), a = near(0, 3), p = near(0, 1), t = near(0, 3);
        if (random.nextBoolean()) a = Math.max(0, Math.min(a, mind.told(1) - s));
        int sort = random.nextInt(KINDS_OF_CALLS);
        if (sort < 12) change(sort, s, a);
        else if (sort < 28) ask(sort, r, s, a, t, p);
        else go(sort, r, s, t, p);
        return compare(checks, where, got, want, call);
    }

    private void change(int sort, int s, int a) {
        int v, w;
        switch (sort) {
            case 0: v = near(0, 2); w = near(1, 3);
                if (random.nextInt(4) > 0) v = -1;
                is("store", mind.store(v, w), mirror.store(v, w), v, w); break;
            case 1: v = near(0, 6); w = v == 6 ? anyInt() : v == 5 ? s : near(0, v == 3 ? 20 : 9);
                is("tell", mind.tell(v, w), mirror.tell(v, w), v, w); break;
            case 2: v = near(0, 3); w = near(0, 5) / (1 + random.nextInt(3));
                is("weight", mind.weight(v, w), mirror.weight(v, w), v, w); break;
            case 3: case 4: is("order", mind.order(s, a), mirror.order(s, a), s, a); break;
            case 5: v = near(0, 127); is("feed", mind.feed(v), mirror.feed(v), v); break;
            case 6: v = near(0, 3); is("keep", mind.keep(v), mirror.keep(v), v); break;
            case 7: v = near(0, 3); is("use", mind.use(v), mirror.use(v), v); break;
            case 8: is("round", mind.round(), mirror.round()); break;
            case 9: v = random.nextInt(8) == 0 ? -1 : s; is("see", mind.see(v, a), mirror.see(v, a), v, a); break;
            case 10: v = random.nextInt(8) == 0 ? -1 : near(0, 2);
                is("plan", mind.plan(v, s), mirror.plan(v, s), v, s); break;
            default: is("undo", mind.undo(), mirror.undo()); break;
        }
    }

    private void ask(int sort, int r, int s, int a, int t, int p) {
        int v;
        switch (sort) {
            case 12: v = near(0, 15); is("told", mind.told(v), mirror.told(v), v); break;
            case 13: is("ruled", mind.ruled(r, s), mirror.ruled(r, s), r, s); break;
            case 14: is("row", mind.row(s, a, t, p), mirror.row(s, a, t, p), s, a, t, p); break;
            case 15: is("cost", mind.cost(s, a, p), mirror.cost(s, a, p), s, a, p); break;
            case 16: is("worth", mind.worth(r, s, p), mirror.worth(r, s, p), r, s, p); break;
            case 17: is("act", mind.act(r, s, a, p), mirror.act(r, s, a, p), r, s, a, p); break;
            case 18: is("better", mind.better(r, s), mirror.better(r, s), r, s); break;
            case 19: is("best", mind.best(p), mirror.best(p), p); break;
            case 20: is("regret", mind.regret(s, p), mirror.regret(s, p), s, p); break;
            case 21: v = near(-1, 3); is("closed", mind.closed(r, v), mirror.closed(r, v), r, v); break;
            case 22: is("share", mind.share(r, t, p), mirror.share(r, t, p), r, t, p); break;
            case 23: is("daily", mind.daily(r, p), mirror.daily(r, p), r, p); break;
            case 24: is("limits", mind.limits(r, p), mirror.limits(r, p), r, p); break;
            case 25: v = near(0, 6);
                is("within", mind.within(v, s, p), mirror.within(v, s, p), v, s, p); break;
            case 26: v = near(1, 6); is("first", mind.first(v, s), mirror.first(v, s), v, s); break;
            default: v = near(0, 2); is("fits", mind.fits(v, p), mirror.fits(v, p), v, p); break;
        }
    }

    private void go(int sort, int r, int s, int t, int p) {
        int v, w, i, j, n;
        long x, y;
        switch (sort) {
            case 28: is("looks", mind.looks(), mirror.looks()); return;
            case 29: case 30: v = near(1, 30); is("day", mind.day(v), mirror.day(v), v); return;
            case 31: v = anyInt(); is("pay", mind.pay(v), mirror.pay(v), v); return;
            case 32: v = anyInt(); is("times", mind.times(v), mirror.times(v), v); return;
            case 33: x = anyLong(); y = anyLong(); is("total", mind.total(x, y), mirror.total(x, y), x, y); return;
            case 34: v = near(-1, 8); w = near(0, 2); is("record", mind.record(v, w), mirror.record(v, w), v, w);
                return;
            case 35: is("likely", mind.likely(p), mirror.likely(p), p); return;
            case 36: v = anyInt(); n = near(0, 99);
                is("would", mind.would(r, v, n, t), mirror.would(r, v, n, t), r, v, n, t); return;
            case 37: is("ends", mind.ends(p), mirror.ends(p), p); return;
            case 38: v = near(0, 5); i = near(-1, 4);
                is("judge", mind.judge(r, v, i), mirror.judge(r, v, i), r, v, i); return;
            case 39: is("image", mind.image(), mirror.image()); return;
            case 40: v = near(0, 2); is("taken", mind.taken(v), mirror.taken(v), v); return;
            case 41: v = near(0, 4); is("count", mind.count(v), mirror.count(v), v); return;
            case 42: v = near(0, 5); w = random.nextBoolean() ? 0 : near(-1, 4); n = near(0, 12);
                is("tape", mind.tape(v, w, n), mirror.tape(v, w, n), v, w, n); return;
            case 43: v = near(0, 5); i = near(0, 8); x = random.nextBoolean() ? s : anyLong();
                is("item", mind.item(v, i, x), mirror.item(v, i, x), v, i, x); return;
            case 44: v = near(0, 5); i = near(0, 8); is("peek", mind.peek(v, i), mirror.peek(v, i), v, i); return;
            case 45: v = near(0, 5); w = near(0, 5); i = near(0, 4); j = near(0, 4); n = near(0, 5);
                is("shift", mind.shift(v, i, w, j, n), mirror.shift(v, i, w, j, n), v, i, w, j, n); return;
            default: is("told", mind.told(9), mirror.told(9), 9);
        }
    }

    public static void main(String[] args) {
        Checks checks = new Checks("MirrorTest");
        for (int run = 0; run < RUNS; run++) {
            MirrorTest one = new MirrorTest(run);
            for (int i = 0; i < CALLS; i++) {
                // Behind a wrong answer the two may differ in all that follows.
                if (!one.step(checks, "run " + run + ", call " + i + ": ")) break;
            }
            for (int what = 0; what <= 15; what++) {
                checks.due("run " + run + ", at its end: told(" + what + ")", one.mind.told(what), one.mirror.told(what));
            }
        }
        checks.end();
    }
}
