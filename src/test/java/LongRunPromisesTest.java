/** Promises 20 to 28: the long run, limits, days ahead. */
public final class LongRunPromisesTest {
    private static final int NONE = -1, BAD = -2, STATE = -3, FULL = -4;
    private static final long NO = ReorderMind.NO;

    private static Checks checks;

    private static void due(String call, long got, long want) {
        checks.due(call, got, want);
    }

    private static void fraction(String call, long gotAbove, long gotBelow, long above, long below) {
        due(call + ", above", gotAbove, above);
        due(call + ", below", gotBelow, below);
    }

    private static void closed() {
        ReorderMind x = new ReorderMind();
        Told.read(x, "w1000");
        due("20: each stays, how many", x.closed(-1, -1), 4);
        for (int i = 0; i <= 3; i++) due("20: closed(-1, " + i + ")", x.closed(-1, i), 1 << i);
        due("20: closed(-1, 4)", x.closed(-1, 4), -5);
        due("20: closed(-1, most)", x.closed(-1, Integer.MAX_VALUE), -5);
        due("20: closed(-1, -2)", x.closed(-1, -2), NONE);
        due("20: closed(-2, 0)", x.closed(-2, 0), NONE);
        due("20: closed(5, 0)", x.closed(5, 0), NONE);
        due("20: closed(0, -2), no such number ahead of none kept", x.closed(0, -2), NONE);
        due("20: closed(0, 0)", x.closed(0, 0), STATE);
        // 0 goes to 2, 1 to 3: those two stay.
        Told.rule(x, "2200");
        due("20: how many", x.closed(-1, -1), 2);
        due("20: closed(-1, 0)", x.closed(-1, 0), 4);
        due("20: closed(-1, 1)", x.closed(-1, 1), 8);
        // DEMAND 1 always: 3 to 2, 2 to 1, 1 to 0, 0 with 3 to 2: 0, 1 and 2 in a ring.
        Told.read(x, "w0100;r3000");
        due("20: a ring, how many", x.closed(-1, -1), 1);
        due("20: a ring", x.closed(-1, 0), 7);
        due("20: no second ring", x.closed(-1, 1), -5);
        // Two at once: 1 with 1 stays, 0 with 3 goes to 2, 2 with 1 stays, too, 3 goes to 2.
        Told.read(x, "w0100;r3110");
        due("20: two, how many", x.closed(-1, -1), 2);
        due("20: the first", x.closed(-1, 0), 2);
        due("20: the second", x.closed(-1, 1), 4);
        x.keep(1);
        x.order(0, 0);
        due("20: of a KEPT one", x.closed(1, 1), 4);
        due("20: of THE RULE", x.closed(-1, 0), 1);
    }

    private static void parts() {
        ReorderMind x = new ReorderMind();
        // A ring in which one is on each third DAY: no DAY stays, but the parts are there.
        Told.read(x, "w0100;r3000;c2119");
        for (int t = 0; t <= 2; t++) {
            fraction("21: share(-1, " + t + ")", x.share(-1, t, 0), x.share(-1, t, 1), 1, 3);
        }
        fraction("21: share(-1, 3)", x.share(-1, 3, 0), x.share(-1, 3, 1), 0, 1);
        // 0: 2 + 3 + 2; 1: 0; 2: 1.
        fraction("22: daily(-1)", x.daily(-1, 0), x.daily(-1, 1), 8, 3);
        x.keep(0);
        // 3 goes away; DEMAND 2 from 0 with 1: 0. All end at 0.
        Told.read(x, "w0010;r1000");
        fraction("21: share(-1, 0)", x.share(-1, 0, 0), x.share(-1, 0, 1), 1, 1);
        fraction("21: share(-1, 1)", x.share(-1, 1, 0), x.share(-1, 1, 1), 0, 1);
        fraction("22: daily(-1) there", x.daily(-1, 0), x.daily(-1, 1), 12, 1);
        fraction("22: daily(0)", x.daily(0, 0), x.daily(0, 1), 15, 2);
        fraction("21: share(0, 1)", x.share(0, 1, 0), x.share(0, 1, 1), 1, 2);
        due("21: share(1, 0)", x.share(1, 0, 0), NO);
        due("21: share(5, 0)", x.share(5, 0, 0), NO);
        due("21: share(-2, 0)", x.share(-2, 0, 0), NO);
        due("21: share(-1, 4)", x.share(-1, 4, 0), NO);
        due("21: share(-1, -1)", x.share(-1, -1, 0), NO);
        due("21: share, part 2", x.share(-1, 0, 2), NO);
        due("22: daily(1)", x.daily(1, 0), NO);
        due("22: daily(5)", x.daily(5, 0), NO);
        due("22: daily(-2)", x.daily(-2, 0), NO);
        due("22: daily, part 2", x.daily(-1, 2), NO);
        Told.read(x, "w1000");
        due("21: more CLOSED sets", x.share(-1, 0, 0), NO);
        due("22: more CLOSED sets", x.daily(-1, 1), NO);

        ReorderMind y = Told.small();
        // BEST: 0 with 1 and 1 with 0 go to both alike; 7/2 and 1/2.
        fraction("21: share(4, 1)", y.share(4, 1, 0), y.share(4, 1, 1), 1, 2);
        fraction("22: daily(4)", y.daily(4, 0), y.daily(4, 1), 2, 1);
    }

    private static void limits() {
        ReorderMind x = new ReorderMind();
        String[] rules = {"0000", "3000", "1000", "3200", "3210", "2100", "2000", "1100", "0200", "0010", "3110", "3010",
            "2210", "1210"};
        int[] lows = {9, 0, 0, 1, 2, 1, 0, -5, -5, -5, -5, -5, -5, -5};
        int[] highs = {9, 3, 1, 3, 3, 2, 2, -5, -5, -5, -5, -5, -5, -5};
        for (int i = 0; i < rules.length; i++) {
            Told.rule(x, rules[i]);
            due("23: low of " + rules[i], x.limits(-1, 0), lows[i]);
            due("23: high of " + rules[i], x.limits(-1, 1), highs[i]);
        }
        due("23: limits(-1, 2)", x.limits(-1, 2), NONE);
        due("23: limits(-1, -1)", x.limits(-1, -1), NONE);
        due("23: limits(5, 0)", x.limits(5, 0), NONE);
        due("23: limits(-2, 0)", x.limits(-2, 0), NONE);
        due("23: limits(2, 2), no such number ahead of none kept", x.limits(2, 2), NONE);
        due("23: limits(2, 0)", x.limits(2, 0), STATE);
        Told.rule(x, "3200");
        x.keep(2);
        Told.rule(x, "0000");
        due("23: limits(2, 0) KEPT", x.limits(2, 0), 1);
        due("23: limits(4, 1)", x.limits(4, 1), 3);
        x.store(0, 1);
        Told.rule(x, "10");
        due("23: CAP 1, low", x.limits(-1, 0), 0);
        due("23: CAP 1, high", x.limits(-1, 1), 1);
    }

    private static void within() {
        ReorderMind x = Told.small();
        fraction("24: within(0, 1)", x.within(0, 1, 0), x.within(0, 1, 1), 0, 1);
        fraction("24: within(1, 0)", x.within(1, 0, 0), x.within(1, 0, 1), 7, 2);
        fraction("24: within(1, 1)", x.within(1, 1, 0), x.within(1, 1, 1), 1, 2);
        fraction("24: within(2, 0)", x.within(2, 0, 0), x.within(2, 0, 1), 9, 2);
        // 3 + 1/2 + (2 and a half, and 1 / 2 of it ...): 7/2 + (9/2 + 3/2) / 4.
        fraction("24: within(3, 0)", x.within(3, 0, 0), x.within(3, 0, 1), 5, 1);
        due("24: within(-1, 0)", x.within(-1, 0, 0), NO);
        due("24: within(7, 0)", x.within(7, 0, 0), NO);
        due("24: within(1, 2)", x.within(1, 2, 0), NO);
        due("24: within(1, -1)", x.within(1, -1, 0), NO);
        due("24: within, part 2", x.within(1, 0, 2), NO);
        due("25: first(1, 0)", x.first(1, 0), 1);
        due("25: first(6, 1)", x.first(6, 1), 0);
        due("25: first(0, 0)", x.first(0, 0), BAD);
        due("25: first(7, 0)", x.first(7, 0), BAD);
        due("25: first(7, 2), no such stock ahead of no such days", x.first(7, 2), NONE);
        due("25: first(1, -1)", x.first(1, -1), NONE);
        due("26: looks()", x.looks(), 1);
        x.order(0, 1);
        x.order(1, 0);
        due("25: not by THE RULE", x.first(1, 0), 1);

        ReorderMind y = Told.rule(new ReorderMind(), "2000");
        Told.read(y, "w0100;c0005;g0");
        due("25: of like ones the least", y.first(3, 0), 1);
        due("26: FIRST and BEST are as good, but others", y.looks(), 1);

        ReorderMind z = new ReorderMind();
        Told.read(z, "w1011;c2819;g9");
        z.tell(3, 10);
        due("26: looks() far ahead", z.looks(), 5);
        z.store(2, 3);
        Told.read(z, "w2200;c6600;g9");
        z.tell(3, 20);
        due("26: looks() as far as it goes", z.looks(), 6);
        z.store(1, 2);
        Told.read(z, "w2010;c1600;g8");
        z.tell(3, 10);
        due("26: looks() never", z.looks(), -5);
    }

    private static void seen() {
        ReorderMind x = new ReorderMind();
        due("27: see(-2, 0)", x.see(-2, 0), NONE);
        due("27: see(4, -1)", x.see(4, -1), NONE);
        due("27: see(2, 2)", x.see(2, 2), BAD);
        due("27: see(2, -1)", x.see(2, -1), BAD);
        for (int i = 1; i <= 5; i++) due("27: see", x.see(1, 2), i);
        due("27: see when full", x.see(1, 2), FULL);
        due("27: a bad see when full", x.see(1, 3), BAD);
        due("27: count(1)", x.count(1), 5);
        due("27: see(-1, 99)", x.see(-1, 99), 0);
        due("27: count(1) then", x.count(1), 0);
        due("27: see(0, 0)", x.see(0, 0), 1);
    }

    private static void fits() {
        ReorderMind x = Told.small();
        due("28: nothing SEEN, TENTHS", x.fits(0, 0), 10);
        due("28: nothing SEEN, FIX", x.fits(1, 0), 10);
        due("28: nothing SEEN, LACK", x.fits(2, 0), 21);
        due("28: nothing SEEN, the least", x.fits(2, 1), 0);
        due("28: fits(-1, 0)", x.fits(-1, 0), NONE);
        due("28: fits(3, 0)", x.fits(3, 0), NONE);
        due("28: fits(0, 2)", x.fits(0, 2), NONE);
        due("28: fits(0, -1)", x.fits(0, -1), NONE);
        // By no TENTHS: 2 + 1 + 1/2 with an order, LACK / 2 without: alike at LACK 7.
        x.tell(4, 0);
        x.see(0, 1);
        due("28: LACK from 7 on", x.fits(2, 1), 7);
        due("28: how many LACK", x.fits(2, 0), 14);
        due("28: FIX up to 3", x.fits(1, 0), 4);
        due("28: FIX from 0 on", x.fits(1, 1), 0);
        x.see(0, 0);
        due("28: both alike, how many", x.fits(2, 0), 1);
        due("28: both alike, the least", x.fits(2, 1), 7);
        due("28: both alike by FIX 3 alone", x.fits(1, 1), 3);
        due("28: both alike, how many FIX", x.fits(1, 0), 1);
        due("28: no TENTHS there", x.fits(0, 0), 0);
        due("28: no least one", x.fits(0, 1), -5);
        due("28: nothing changed, LACK", x.told(6), 9);
        due("28: nothing changed, FIX", x.told(3), 2);
        due("28: nothing changed, TENTHS", x.told(7), 0);
    }

    public static void main(String[] args) {
        checks = new Checks("LongRunPromisesTest");
        closed();
        parts();
        limits();
        within();
        seen();
        fits();
        checks.end();
    }
}
