import java.util.Random;

/** Drawn stores, of which all is asked that can be asked of WORTH, CLOSED sets, DAYS ahead: as the Mirror answers. */
public final class AskedTest {
    private static final int STORES = 250;

    private final Checks checks;
    private final Random random;
    private final String name;
    private final ReorderMind x = new ReorderMind();
    private final Mirror y = new Mirror();

    private AskedTest(Checks checks, int seed) {
        this.checks = checks;
        random = new Random(seed);
        name = "store " + seed + ": ";
    }

    private void due(String call, long got, long want) {
        checks.due(name + call, got, want);
    }

    private void text(StringBuilder text) {
        for (int i = 0; i < text.length(); i++) {
            x.feed(text.charAt(i));
            y.feed(text.charAt(i));
        }
        due("read() of " + text, x.read(), y.read());
    }

    private void drawRule() {
        StringBuilder rule = new StringBuilder("r");
        for (int s = 0; s <= x.told(1); s++) rule.append(random.nextInt(x.told(1) - s + 1));
        text(rule);
    }

    private void drawStore() {
        int kind = random.nextInt(3);
        int cap = 1 + random.nextInt(3);
        due("store", x.store(kind, cap), y.store(kind, cap));
        StringBuilder text = new StringBuilder("w");
        int left = 6;
        for (int d = 0; d < 4; d++) {
            int w = random.nextInt(Math.min(left, 5) + 1) / (1 + random.nextInt(2));
            left -= w;
            text.append(left == 6 && d == 3 ? 1 : w);
        }
        text.append(";g").append(random.nextInt(10));
        text(text);
        int few = 1 + random.nextInt(10);
        for (int what = 0; what <= 3; what++) {
            int v = random.nextInt(what == 3 ? 2 * few + 1 : few);
            due("tell(" + what + ", " + v + ")", x.tell(what, v), y.tell(what, v));
        }
        for (int i = 0; i <= 1; i++) {
            drawRule();
            due("keep", x.keep(i), y.keep(i));
        }
        drawRule();
    }

    private void ask(int rule) {
        for (int i = -1; i <= 4; i++) due("closed(" + rule + ", " + i + ")", x.closed(rule, i), y.closed(rule, i));
        for (int p = 0; p <= 1; p++) {
            due("daily(" + rule + ", " + p + ")", x.daily(rule, p), y.daily(rule, p));
            due("limits(" + rule + ", " + p + ")", x.limits(rule, p), y.limits(rule, p));
            for (int s = 0; s <= 3; s++) {
                due("worth(" + rule + ", " + s + ", " + p + ")", x.worth(rule, s, p), y.worth(rule, s, p));
                due("share(" + rule + ", " + s + ", " + p + ")", x.share(rule, s, p), y.share(rule, s, p));
                due("better(" + rule + ", " + s + ")", x.better(rule, s), y.better(rule, s));
                due("ruled(" + rule + ", " + s + ")", x.ruled(rule, s), y.ruled(rule, s));
                for (int a = 0; a <= 3 - s; a++) {
                    due("act(" + rule + ", " + s + ", " + a + ", " + p + ")", x.act(rule, s, a, p), y.act(rule, s, a, p));
                }
            }
        }
        int seed = random.nextInt();
        for (int what = 0; what <= 3; what++) {
            due("would(" + rule + ", " + seed + ", 30, " + what + ")", x.would(rule, seed, 30, what),
                    y.would(rule, seed, 30, what));
        }
    }

    private void askAhead() {
        due("looks()", x.looks(), y.looks());
        for (int p = 0; p <= 1; p++) {
            due("best(" + p + ")", x.best(p), y.best(p));
            for (int s = 0; s <= 3; s++) {
                due("regret(" + s + ", " + p + ")", x.regret(s, p), y.regret(s, p));
                for (int n = 0; n <= 6; n++) {
                    due("within(" + n + ", " + s + ", " + p + ")", x.within(n, s, p), y.within(n, s, p));
                    due("first(" + n + ", " + s + ")", x.first(n, s), y.first(n, s));
                }
                for (int a = 0; a <= 3 - s; a++) {
                    due("cost(" + s + ", " + a + ", " + p + ")", x.cost(s, a, p), y.cost(s, a, p));
                    for (int t = 0; t <= 3; t++) {
                        due("row(" + s + ", " + a + ", " + t + ", " + p + ")", x.row(s, a, t, p), y.row(s, a, t, p));
                    }
                }
            }
        }
    }

    private void askSeen() {
        for (int i = 0; i < 3; i++) {
            int s = random.nextInt(x.told(1) + 1);
            int a = random.nextInt(3) > 0 ? x.ruled(4, s) : random.nextInt(x.told(1) - s + 1);
            due("see(" + s + ", " + a + ")", x.see(s, a), y.see(s, a));
            for (int sort = 0; sort <= 2; sort++) {
                for (int what = 0; what <= 1; what++) {
                    due("fits(" + sort + ", " + what + ")", x.fits(sort, what), y.fits(sort, what));
                }
            }
        }
    }

    private void truly() {
        for (int i = 0; i < 3; i++) {
            int n = 1 + random.nextInt(5);
            due("day(" + n + ")", x.day(n), y.day(n));
            due("BALANCE", x.told(10), y.told(10));
            for (int p = 0; p <= 1; p++) due("likely(" + p + ")", x.likely(p), y.likely(p));
        }
        due("round()", x.round(), y.round());
        ask(-1);
    }

    public static void main(String[] args) {
        Checks checks = new Checks("AskedTest");
        for (int seed = 0; seed < STORES; seed++) {
            AskedTest one = new AskedTest(checks, seed);
            one.drawStore();
            int[] rules = {-1, 0, 1, 4};
            for (int rule : rules) one.ask(rule);
            one.askAhead();
            one.askSeen();
            one.truly();
        }
        checks.end();
    }
}
