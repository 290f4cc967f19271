import java.math.BigInteger;
import java.util.ArrayList;
import java.util.Arrays;
import java.util.List;
import java.util.TreeMap;
import java.util.regex.Matcher;
import java.util.regex.Pattern;

/**
 * The document once more, in the plainest way and with other means than ReorderMind: fractions of any size,
 * elimination, sets tried one by one, a regular expression for THE TEXT.
 */
final class Mirror {
    private static final int NONE = -1, BAD = -2, STATE = -3, FULL = -4, HUGE = -6;
    private static final long NO = Long.MIN_VALUE;

    private static final class Held {
        int kind = 0, cap = 3, stock = 0, fix = 2, each = 1, keep = 1, lack = 5, tenths = 5, seed = 1, gone = 0;
        BigInteger balance = BigInteger.ZERO;
        int[] weights = {1, 1, 1, 1};
        List<Integer> rule = new ArrayList<>(List.of(0, 0, 0, 0));
        TreeMap<Integer, List<Integer>> kept = new TreeMap<>();
        List<int[]> seen = new ArrayList<>();
        List<int[]> plan = new ArrayList<>();
        List<int[]> record = new ArrayList<>();

        Held copy() {
            Held c = new Held();
            c.kind = kind;
            c.cap = cap;
            c.stock = stock;
            c.fix = fix;
            c.each = each;
            c.keep = keep;
            c.lack = lack;
            c.tenths = tenths;
            c.seed = seed;
            c.gone = gone;
            c.balance = balance;
            c.weights = weights.clone();
            c.rule = new ArrayList<>(rule);
            c.kept = new TreeMap<>(kept);
            c.seen = new ArrayList<>(seen);
            c.plan = new ArrayList<>(plan);
            c.record = new ArrayList<>(record);
            return c;
        }

        int sum() {
            return Arrays.stream(weights).sum();
        }

        Ratio odds(int d) {
            return Ratio.of(weights[d], sum());
        }

        boolean isStock(int s) {
            return 0 <= s && s <= cap;
        }

        boolean isOrder(int s, int a) {
            return 0 <= a && a <= cap - s;
        }

        int stockThen(int s, int a, int d) {
            int left = Math.max(0, s + a - d);
            return kind == 1 ? (left + 1) / 2 : left;
        }

        int lost(int s, int a, int d) {
            return Math.max(0, d - s - a);
        }

        int spent(int s, int a, int d) {
            int lostCost = lack * lost(s, a, d);
            if (kind == 2 && s == 0) lostCost *= 2;
            return (a > 0 ? fix : 0) + each * a + keep * stockThen(s, a, d) + lostCost;
        }

        Ratio discount() {
            return Ratio.of(tenths, 10);
        }

        Ratio move(int s, int a, int t) {
            Ratio sum = Ratio.ZERO;
            for (int d = 0; d < 4; d++) if (stockThen(s, a, d) == t) sum = sum.plus(odds(d));
            return sum;
        }

        Ratio cost(int s, int a) {
            Ratio sum = Ratio.ZERO;
            for (int d = 0; d < 4; d++) sum = sum.plus(odds(d).times(Ratio.of(spent(s, a, d), 1)));
            return sum;
        }

        Ratio[] worth(List<Integer> r) {
            Ratio[][] rows = new Ratio[cap + 1][cap + 2];
            for (int s = 0; s <= cap; s++) {
                for (int t = 0; t <= cap; t++) {
                    Ratio unit = s == t ? Ratio.ONE : Ratio.ZERO;
                    rows[s][t] = unit.less(discount().times(move(s, r.get(s), t)));
                }
                rows[s][cap + 1] = cost(s, r.get(s));
            }
            return Ratio.solved(rows, cap + 1);
        }

        Ratio act(Ratio[] worth, int s, int a) {
            Ratio sum = cost(s, a);
            for (int t = 0; t <= cap; t++) sum = sum.plus(discount().times(move(s, a, t)).times(worth[t]));
            return sum;
        }

        int better(List<Integer> r, int s) {
            Ratio[] worth = worth(r);
            Ratio least = act(worth, s, 0);
            for (int a = 1; a <= cap - s; a++) {
                Ratio one = act(worth, s, a);
                if (one.against(least) < 0) least = one;
            }
            if (act(worth, s, r.get(s)).equals(least)) return r.get(s);
            for (int a = 0; ; a++) if (act(worth, s, a).equals(least)) return a;
        }

        List<Integer> round(List<Integer> r) {
            List<Integer> next = new ArrayList<>(r);
            for (int s = 0; s <= cap; s++) next.set(s, better(r, s));
            return next;
        }

        /** THE RULE, and what it is behind each ROUND that changes it. */
        List<List<Integer>> rounds() {
            List<List<Integer>> all = new ArrayList<>(List.of(rule));
            while (true) {
                List<Integer> next = round(all.get(all.size() - 1));
                if (next.equals(all.get(all.size() - 1))) return all;
                all.add(next);
            }
        }

        List<Integer> best() {
            List<List<Integer>> all = rounds();
            return all.get(all.size() - 1);
        }

        boolean comesTo(List<Integer> r, int s, int t) {
            int from = 1 << s;
            int came = 0;
            for (int days = 0; days < 6; days++) {
                int then = 0;
                for (int x = 0; x <= cap; x++) {
                    for (int y = 0; y <= cap; y++) {
                        if ((from & 1 << x) != 0 && !move(x, r.get(x), y).isZero()) then |= 1 << y;
                    }
                }
                came |= then;
                from = then;
            }
            return (came & 1 << t) != 0;
        }

        List<Integer> closed(List<Integer> r) {
            boolean[][] comes = new boolean[cap + 1][cap + 1];
            for (int s = 0; s <= cap; s++) for (int t = 0; t <= cap; t++) comes[s][t] = comesTo(r, s, t);
            List<Integer> sets = new ArrayList<>();
            for (int set = 1; set < 1 << cap + 1; set++) {
                boolean is = true;
                for (int s = 0; s <= cap; s++) {
                    for (int t = 0; t <= cap; t++) {
                        if ((set & 1 << s) != 0 && comes[s][t] != ((set & 1 << t) != 0)) is = false;
                    }
                }
                if (is) sets.add(set);
            }
            return sets;
        }

        /** PARTS by elimination; null if there are more CLOSED sets. */
        Ratio[] parts(List<Integer> r) {
            if (closed(r).size() != 1) return null;
            int n = cap + 1;
            Ratio[][] rows = new Ratio[n + 1][n + 1];
            for (int t = 0; t < n; t++) {
                for (int s = 0; s < n; s++) {
                    rows[t][s] = move(s, r.get(s), t).less(s == t ? Ratio.ONE : Ratio.ZERO);
                }
                rows[t][n] = Ratio.ZERO;
            }
            Arrays.fill(rows[n], Ratio.ONE);
            return Ratio.solved(rows, n);
        }

        /** At each STOCK. */
        Ratio[] within(int n) {
            Ratio[] least = new Ratio[cap + 1];
            Arrays.fill(least, Ratio.ZERO);
            if (n == 0) return least;
            Ratio[] then = within(n - 1);
            for (int s = 0; s <= cap; s++) {
                least[s] = act(then, s, 0);
                for (int a = 1; a <= cap - s; a++) {
                    Ratio one = act(then, s, a);
                    if (one.against(least[s]) < 0) least[s] = one;
                }
            }
            return least;
        }

        int first(int n, int s) {
            Ratio least = within(n)[s];
            Ratio[] then = within(n - 1);
            for (int a = 0; ; a++) if (act(then, s, a).equals(least)) return a;
        }

        int[] dayDrawn(List<Integer> r) {
            seed = seed * 1103515245 + 12345;
            int drawn = (seed >>> 9) % sum();
            int d = 0;
            while (Arrays.stream(weights, 0, d + 1).sum() <= drawn) d++;
            int[] day = {stock, r.get(stock), d};
            stock = stockThen(day[0], day[1], d);
            return day;
        }
    }

    private Held now = new Held();
    private Held image;
    private final StringBuilder text = new StringBuilder();
    private final Object[] tapes = new Object[6];

    private static boolean in(long v, long low, long high) {
        return low <= v && v <= high;
    }

    /** Null if it is not there. */
    private List<Integer> ruleOf(int rule) {
        return rule == -1 ? now.rule : rule == 4 ? now.best() : now.kept.get(rule);
    }

    private boolean isRuleMissing(int rule) {
        return in(rule, 0, 3) && !now.kept.containsKey(rule);
    }

    int store(int kind, int cap) {
        if (!in(kind, 0, 2)) return NONE;
        if (!in(cap, 1, 3)) return BAD;
        int was = now.cap;
        now.kind = kind;
        now.cap = cap;
        now.stock = 0;
        now.rule = new ArrayList<>(List.of(0, 0, 0, 0));
        now.kept.clear();
        now.seen.clear();
        now.plan.clear();
        now.record.clear();
        return was;
    }

    int tell(int what, int v) {
        int was;
        switch (what) {
            case 0: if (!in(v, 0, 9)) return BAD; was = now.fix; now.fix = v; return was;
            case 1: if (!in(v, 0, 9)) return BAD; was = now.each; now.each = v; return was;
            case 2: if (!in(v, 0, 9)) return BAD; was = now.keep; now.keep = v; return was;
            case 3: if (!in(v, 0, 20)) return BAD; was = now.lack; now.lack = v; return was;
            case 4: if (!in(v, 0, 9)) return BAD; was = now.tenths; now.tenths = v; return was;
            case 5: if (!in(v, 0, now.cap)) return BAD; was = now.stock; now.stock = v; return was;
            case 6: was = now.seed; now.seed = v; return was;
            default: return NONE;
        }
    }

    int weight(int demand, int w) {
        if (!in(demand, 0, 3)) return NONE;
        if (!in(w, 0, 5)) return BAD;
        int[] then = now.weights.clone();
        then[demand] = w;
        if (!in(Arrays.stream(then).sum(), 1, 6)) return BAD;
        int was = now.weights[demand];
        now.weights = then;
        return was;
    }

    int order(int stock, int a) {
        if (!now.isStock(stock)) return NONE;
        return now.isOrder(stock, a) ? now.rule.set(stock, a) : BAD;
    }

    int feed(int sign) {
        if (!in(sign, 0, 127)) return BAD;
        return text.length() == 60 ? FULL : text.append((char) sign).length();
    }

    int read() {
        String whole = text.toString();
        text.setLength(0);
        StringBuilder digits = new StringBuilder();
        for (int s = 0; s <= now.cap; s++) digits.append("[0-").append(now.cap - s).append("]");
        String clause = "(w[0-5]{4}|c[0-9]{4}|g[0-9]|r" + digits + ")";
        Matcher matcher = Pattern.compile(clause + "(;" + clause + "){0,5}", Pattern.DOTALL).matcher(whole);
        int fault = matcher.matches() ? Integer.MAX_VALUE : whole.length();
        for (int end = whole.length(); end > 0; end--) {
            matcher.reset(whole.substring(0, end));
            if (!matcher.matches() && !matcher.hitEnd()) fault = end - 1;
        }
        for (int i = 0; i + 5 <= Math.min(whole.length(), fault); i++) {
            if (whole.charAt(i) != 'w') continue;
            int sum = whole.substring(i + 1, i + 5).chars().map(c -> c - '0').sum();
            if (!in(sum, 1, 6)) fault = i + 4;
        }
        if (fault != Integer.MAX_VALUE) return -10 - fault;
        String[] clauses = whole.split(";");
        for (String one : clauses) tellClause(one.charAt(0), one.substring(1));
        return clauses.length;
    }

    private void tellClause(char letter, String digits) {
        int[] v = digits.chars().map(c -> c - '0').toArray();
        switch (letter) {
            case 'w': now.weights = v; break;
            case 'g': now.tenths = v[0]; break;
            case 'r': for (int s = 0; s < v.length; s++) now.rule.set(s, v[s]); break;
            default: now.fix = v[0]; now.each = v[1]; now.keep = v[2]; now.lack = v[3];
        }
    }

    int keep(int i) {
        if (!in(i, 0, 3)) return NONE;
        return now.kept.put(i, List.copyOf(now.rule)) == null ? 0 : 1;
    }

    int use(int i) {
        if (!in(i, 0, 3)) return NONE;
        if (!now.kept.containsKey(i)) return STATE;
        List<Integer> was = now.rule;
        now.rule = new ArrayList<>(now.kept.get(i));
        return others(was, now.rule);
    }

    private int others(List<Integer> one, List<Integer> two) {
        int others = 0;
        for (int s = 0; s <= now.cap; s++) if (!one.get(s).equals(two.get(s))) others++;
        return others;
    }

    int told(int what) {
        int[] all = {now.kind, now.cap, now.stock, now.fix, now.each, now.keep, now.lack, now.tenths, now.sum(),
            now.seed, now.balance.intValueExact(), now.gone, now.weights[0], now.weights[1], now.weights[2],
            now.weights[3]};
        return in(what, 0, 15) ? all[what] : NONE;
    }

    int ruled(int rule, int stock) {
        if (!in(rule, -1, 4) || !now.isStock(stock)) return NONE;
        return isRuleMissing(rule) ? STATE : ruleOf(rule).get(stock);
    }

    long row(int stock, int a, int t, int part) {
        if (!now.isStock(stock) || !now.isOrder(stock, a) || !now.isStock(t)) return NO;
        return now.move(stock, a, t).part(part);
    }

    long cost(int stock, int a, int part) {
        return now.isStock(stock) && now.isOrder(stock, a) ? now.cost(stock, a).part(part) : NO;
    }

    long worth(int rule, int stock, int part) {
        if (!in(rule, -1, 4) || isRuleMissing(rule) || !now.isStock(stock)) return NO;
        return now.worth(ruleOf(rule))[stock].part(part);
    }

    long act(int rule, int stock, int a, int part) {
        if (!in(rule, -1, 4) || isRuleMissing(rule) || !now.isStock(stock) || !now.isOrder(stock, a)) return NO;
        return now.act(now.worth(ruleOf(rule)), stock, a).part(part);
    }

    int better(int rule, int stock) {
        if (!in(rule, -1, 4) || !now.isStock(stock)) return NONE;
        return isRuleMissing(rule) ? STATE : now.better(ruleOf(rule), stock);
    }

    int round() {
        List<Integer> was = now.rule;
        now.rule = now.round(was);
        return others(was, now.rule);
    }

    int best(int what) {
        if (what == 0) return now.rounds().size() - 1;
        return what == 1 ? others(now.rule, now.best()) : NONE;
    }

    long regret(int stock, int part) {
        if (!now.isStock(stock)) return NO;
        return now.worth(now.rule)[stock].less(now.worth(now.best())[stock]).part(part);
    }

    int closed(int rule, int i) {
        if (!in(rule, -1, 4) || i < -1) return NONE;
        if (isRuleMissing(rule)) return STATE;
        List<Integer> sets = now.closed(ruleOf(rule));
        if (i == -1) return sets.size();
        return i < sets.size() ? sets.get(i) : -5;
    }

    long share(int rule, int t, int part) {
        if (!in(rule, -1, 4) || isRuleMissing(rule) || !now.isStock(t)) return NO;
        Ratio[] parts = now.parts(ruleOf(rule));
        return parts == null ? NO : parts[t].part(part);
    }

    long daily(int rule, int part) {
        if (!in(rule, -1, 4) || isRuleMissing(rule)) return NO;
        List<Integer> r = ruleOf(rule);
        Ratio[] parts = now.parts(r);
        if (parts == null) return NO;
        Ratio sum = Ratio.ZERO;
        for (int s = 0; s <= now.cap; s++) sum = sum.plus(parts[s].times(now.cost(s, r.get(s))));
        return sum.part(part);
    }

    int limits(int rule, int what) {
        if (!in(rule, -1, 4) || !in(what, 0, 1)) return NONE;
        if (isRuleMissing(rule)) return STATE;
        List<Integer> r = ruleOf(rule).subList(0, now.cap + 1);
        if (r.stream().allMatch(a -> a == 0)) return 9;
        for (int low = 0; low <= now.cap; low++) {
            for (int high = low + 1; high <= now.cap; high++) {
                boolean are = true;
                for (int s = 0; s <= now.cap; s++) if (r.get(s) != (s <= low ? high - s : 0)) are = false;
                if (are) return what == 0 ? low : high;
            }
        }
        return -5;
    }

    long within(int n, int stock, int part) {
        return in(n, 0, 6) && now.isStock(stock) ? now.within(n)[stock].part(part) : NO;
    }

    int first(int n, int stock) {
        if (!now.isStock(stock)) return NONE;
        return in(n, 1, 6) ? now.first(n, stock) : BAD;
    }

    int looks() {
        Ratio[] worth = now.worth(now.best());
        for (int n = 1; n <= 6; n++) {
            boolean all = true;
            for (int s = 0; s <= now.cap; s++) {
                if (!now.act(worth, s, now.first(n, s)).equals(worth[s])) all = false;
            }
            if (all) return n;
        }
        return -5;
    }

    int see(int stock, int a) {
        if (stock == -1) {
            now.seen.clear();
            return 0;
        }
        if (!now.isStock(stock)) return NONE;
        if (!now.isOrder(stock, a)) return BAD;
        if (now.seen.size() == 5) return FULL;
        now.seen.add(new int[] {stock, a});
        return now.seen.size();
    }

    int fits(int sort, int what) {
        if (!in(sort, 0, 2) || !in(what, 0, 1)) return NONE;
        List<Integer> fitting = new ArrayList<>();
        for (int v = 0; v <= (sort == 2 ? 20 : 9); v++) {
            Held so = now.copy();
            if (sort == 0) so.tenths = v;
            if (sort == 1) so.fix = v;
            if (sort == 2) so.lack = v;
            Ratio[] worth = so.worth(so.best());
            if (so.seen.stream().allMatch(o -> so.act(worth, o[0], o[1]).equals(worth[o[0]]))) fitting.add(v);
        }
        if (what == 0) return fitting.size();
        return fitting.isEmpty() ? -5 : fitting.get(0);
    }

    private static boolean isInt(BigInteger v) {
        return v.bitLength() < 32;
    }

    int day(int n) {
        if (!in(n, 1, 30)) return BAD;
        if (now.gone + n > 9999) return FULL;
        Held then = now.copy();
        for (int i = 0; i < n; i++) {
            int[] day = then.dayDrawn(then.rule);
            then.balance = then.balance.subtract(BigInteger.valueOf(then.spent(day[0], day[1], day[2])));
            if (!isInt(then.balance)) return HUGE;
            then.record.add(day);
            if (then.record.size() > 8) then.record.remove(0);
            then.gone++;
        }
        now = then;
        return now.stock;
    }

    private int balance(BigInteger v) {
        if (!isInt(v)) return HUGE;
        now.balance = v;
        return 1;
    }

    int pay(int v) {
        return balance(now.balance.add(BigInteger.valueOf(v)));
    }

    int times(int k) {
        return balance(now.balance.multiply(BigInteger.valueOf(k)));
    }

    int total(long n, long v) {
        BigInteger balances = now.balance.multiply(BigInteger.valueOf(n));
        return balances.bitLength() < 64 && isInt(balances.add(BigInteger.valueOf(v))) ? 1 : HUGE;
    }

    int record(int i, int what) {
        if (i == -1) return now.record.size();
        return in(i, 0, now.record.size() - 1) && in(what, 0, 2) ? now.record.get(i)[what] : NONE;
    }

    long likely(int part) {
        Ratio all = Ratio.ONE;
        for (int[] day : now.record) all = all.times(now.odds(day[2]));
        return all.part(part);
    }

    int would(int rule, int seed, int n, int what) {
        if (!in(rule, -1, 4) || !in(what, 0, 3)) return NONE;
        if (isRuleMissing(rule)) return STATE;
        if (!in(n, 0, 99)) return BAD;
        Held then = now.copy();
        List<Integer> r = ruleOf(rule);
        then.seed = seed;
        int[] sums = new int[4];
        for (int i = 0; i < n; i++) {
            int[] day = then.dayDrawn(r);
            sums[1] += then.spent(day[0], day[1], day[2]);
            sums[2] += then.lost(day[0], day[1], day[2]);
            if (day[1] > 0) sums[3]++;
        }
        sums[0] = then.stock;
        return sums[what];
    }

    int plan(int what, int n) {
        if (what == -1) {
            now.plan.clear();
            return 0;
        }
        if (!in(what, 0, 2)) return NONE;
        if (!in(n, 0, 3)) return BAD;
        if (now.plan.size() == 8) return FULL;
        now.plan.add(new int[] {what, n});
        return now.plan.size();
    }

    int ends(int what) {
        if (!in(what, 0, 1)) return NONE;
        int stock = now.stock;
        int spent = 0;
        List<Integer> r = now.rule;
        for (int[] one : now.plan) {
            if (one[0] == 0) {
                spent += now.spent(stock, r.get(stock), one[1]);
                stock = now.stockThen(stock, r.get(stock), one[1]);
            } else if (one[0] == 1) {
                stock = Math.min(one[1], now.cap);
            } else {
                r = now.kept.getOrDefault(one[1], r);
            }
        }
        return what == 0 ? stock : spent;
    }

    int judge(int rule, int tape, int i) {
        if (!in(rule, -1, 4) || !in(tape, 0, 5)) return NONE;
        if (isRuleMissing(rule)) return STATE;
        if (tapes[tape] == null) return 100;
        if (!(tapes[tape] instanceof byte[] told)) return -12;
        if (i < 0) return 100;
        for (int s = 0; s <= now.cap; s++) {
            if ((long) i + s >= told.length) return 100 + s;
            if (told[i + s] != ruleOf(rule).get(s)) return s;
        }
        return -5;
    }

    int image() {
        image = now.copy();
        return now.gone;
    }

    int undo() {
        if (image == null) return STATE;
        now = image.copy();
        return now.gone;
    }

    int taken(int k) {
        if (!in(k, 0, 2)) return BAD;
        return k == 0 || now.kind == k ? now.kind : -12;
    }

    int count(int what) {
        int[] all = {text.length(), now.seen.size(), now.plan.size(), now.kept.size(), now.record.size()};
        return in(what, 0, 4) ? all[what] : BAD;
    }

    int tape(int tape, int sort, int n) {
        if (!in(tape, 0, 5)) return NONE;
        if (!in(sort, -1, 4) || sort != -1 && n > 60) return BAD;
        if (sort != -1 && n < 0) return -14;
        switch (sort) {
            case 0: tapes[tape] = new byte[n]; break;
            case 1: tapes[tape] = new short[n]; break;
            case 2: tapes[tape] = new int[n]; break;
            case 3: tapes[tape] = new long[n]; break;
            case 4: tapes[tape] = new boolean[n]; break;
            default: tapes[tape] = null;
        }
        return 1;
    }

    int item(int tape, int i, long v) {
        if (!in(tape, 0, 5)) return NONE;
        Object row = tapes[tape];
        if (row == null) return -11;
        if (!in(i, 0, java.lang.reflect.Array.getLength(row) - 1)) return -13;
        if (row instanceof byte[] b) b[i] = (byte) v;
        if (row instanceof short[] b) b[i] = (short) v;
        if (row instanceof int[] b) b[i] = (int) v;
        if (row instanceof long[] b) b[i] = v;
        if (row instanceof boolean[] b) b[i] = v != 0;
        return 1;
    }

    long peek(int tape, int i) {
        if (!in(tape, 0, 5) || tapes[tape] == null) return NO;
        Object row = tapes[tape];
        if (!in(i, 0, java.lang.reflect.Array.getLength(row) - 1)) return NO;
        if (row instanceof boolean[] b) return b[i] ? 1 : 0;
        return java.lang.reflect.Array.getLong(row, i);
    }

    int shift(int tape, int i, int other, int j, int n) {
        if (!in(tape, 0, 5) || !in(other, 0, 5)) return NONE;
        if (tapes[tape] == null || tapes[other] == null) return -11;
        try {
            System.arraycopy(tapes[tape], i, tapes[other], j, n);
            return n;
        } catch (ArrayStoreException e) {
            return -12;
        } catch (IndexOutOfBoundsException e) {
            return -13;
        }
    }
}
