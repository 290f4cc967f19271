/** Promises 29 to 37: days truly gone through, BALANCE, THE RECORD, days in thought. */
public final class TrulyPromisesTest {
    private static final int NONE = -1, BAD = -2, STATE = -3, FULL = -4, HUGE = -6;

    private static Checks checks;

    private static void due(String call, long got, long want) {
        checks.due(call, got, want);
    }

    private static void unchanged(String what, ReorderMind x, String was) {
        checks.that(Told.all(x).equals(was), what + " changed something");
    }

    /** STOCK ahead, ORDER, DEMAND of ten DAYS by SEED 1 and the RULE 3100. */
    private static final int[][] TEN = {{0, 3, 3}, {0, 3, 0}, {3, 0, 2}, {1, 1, 1}, {1, 1, 3}, {0, 3, 2}, {1, 1, 3},
        {0, 3, 3}, {0, 3, 2}, {1, 1, 2}};

    private static void day() {
        ReorderMind x = Told.rule(new ReorderMind(), "3100");
        due("29: day(0)", x.day(0), BAD);
        due("29: day(31)", x.day(31), BAD);
        due("29: day(-1)", x.day(-1), BAD);
        due("29: day(1)", x.day(1), 0);
        due("29: BALANCE", x.told(10), -5);
        due("29: day(1) again", x.day(1), 3);
        due("29: STOCK", x.told(2), 3);
        due("29: day(8)", x.day(8), 0);
        due("29: SEED", x.told(9), 267834847);
        due("29: BALANCE then", x.told(10), -54);
        due("29: GONE", x.told(11), 10);
        due("33: record(-1, 0)", x.record(-1, 0), 8);
        due("42: count(4)", x.count(4), 8);
        for (int i = 0; i < 8; i++) {
            for (int what = 0; what <= 2; what++) {
                due("33: record(" + i + ", " + what + ")", x.record(i, what), TEN[i + 2][what]);
            }
        }
        ReorderMind y = Told.rule(new ReorderMind(), "3100");
        due("29: ten at once", y.day(10), 0);
        unchanged("29: ten at once", y, Told.all(x));

        // FRESH: (2 + 0, 3), (0 + 3, 0), (2, 2), (0 + 3, 1), .. as reckoned by hand.
        ReorderMind z = new ReorderMind();
        z.store(1, 3);
        Told.rule(z, "3100");
        z.tell(5, 2);
        due("29: FRESH day(2)", z.day(2), 2);
        due("29: FRESH day(2) again", z.day(2), 1);
        due("29: FRESH BALANCE", z.told(10), -18);
        due("29: FRESH day(6)", z.day(6), 0);
        due("29: FRESH BALANCE then", z.told(10), -54);
    }

    private static void dayRefused() {
        ReorderMind x = new ReorderMind();
        Told.read(x, "w0100;c0005");
        x.pay(Integer.MIN_VALUE);
        x.pay(14);
        String was = Told.all(x);
        due("29: HUGE on the third", x.day(3), HUGE);
        unchanged("29: HUGE", x, was);
        due("29: two are well", x.day(2), 0);
        due("29: BALANCE", x.told(10), Integer.MIN_VALUE + 4);
        x.tell(3, 4);
        due("29: to the very end", x.day(1), 0);
        due("29: BALANCE at the end", x.told(10), Integer.MIN_VALUE);
        due("29: one more", x.day(1), HUGE);
        x.tell(3, 0);
        due("29: one that COSTS nothing", x.day(1), 0);
        while (x.told(11) < 9990) x.day(Math.min(30, 9990 - x.told(11)));
        was = Told.all(x);
        due("29: above 9999", x.day(10), FULL);
        due("29: BAD ahead of FULL", x.day(31), BAD);
        unchanged("29: FULL", x, was);
        due("29: up to 9999", x.day(9), 0);
        due("29: GONE", x.told(11), 9999);
        x.tell(3, 20);
        due("29: FULL ahead of HUGE", x.day(1), FULL);
    }

    private static void balance() {
        ReorderMind x = new ReorderMind();
        due("30: pay(most)", x.pay(Integer.MAX_VALUE), 1);
        due("30: pay(1)", x.pay(1), HUGE);
        due("30: BALANCE", x.told(10), Integer.MAX_VALUE);
        due("30: pay(least)", x.pay(Integer.MIN_VALUE), 1);
        due("30: BALANCE then", x.told(10), -1);
        due("30: pay(least) again", x.pay(Integer.MIN_VALUE), HUGE);
        due("31: times(least)", x.times(Integer.MIN_VALUE), HUGE);
        due("31: times(most)", x.times(Integer.MAX_VALUE), 1);
        due("31: BALANCE", x.told(10), -Integer.MAX_VALUE);
        due("31: times(2)", x.times(2), HUGE);
        due("31: times(-1)", x.times(-1), 1);
        due("31: BALANCE then", x.told(10), Integer.MAX_VALUE);
        due("31: times(0)", x.times(0), 1);
        due("31: BALANCE 0", x.told(10), 0);
        x.pay(-1 << 16);
        due("31: times(1 << 15)", x.times(1 << 15), 1);
        due("31: BALANCE least", x.told(10), Integer.MIN_VALUE);
        due("31: times(-1) of the least", x.times(-1), HUGE);
        due("31: times(1)", x.times(1), 1);
    }

    private static void total() {
        ReorderMind x = new ReorderMind();
        long most = Long.MAX_VALUE;
        long least = Long.MIN_VALUE;
        due("32: total(most, 0) of 0", x.total(most, 0), 1);
        due("32: total(0, above an int) of 0", x.total(0, 1L << 31), HUGE);
        due("32: total(0, the least int)", x.total(0, -(1L << 31)), 1);
        due("32: total(0, below it)", x.total(0, -(1L << 31) - 1), HUGE);
        due("32: total(0, most)", x.total(0, most), HUGE);
        x.pay(-1);
        due("32: total(least, 0) of -1", x.total(least, 0), HUGE);
        due("32: total(least, least) of -1", x.total(least, least), HUGE);
        due("32: total(least, most) of -1, the first no long", x.total(least, most), HUGE);
        due("32: total(most, most) of -1", x.total(most, most), 1);
        due("32: total(most, least) of -1, below a long", x.total(most, least), HUGE);
        x.times(-1);
        due("32: total(least, most) of 1", x.total(least, most), 1);
        due("32: total(most, 1) of 1, above a long", x.total(most, 1), HUGE);
        due("32: total(least, -1) of 1, below a long", x.total(least, -1), HUGE);
        x.times(2);
        due("32: total(1 << 62, least) of 2, the first no long", x.total(1L << 62, least), HUGE);
        due("32: total((1 << 62) - 1, -most) of 2", x.total((1L << 62) - 1, -most), 1);
        due("32: total(-1 << 62, most) of 2", x.total(-1L << 62, most), 1);
        due("32: BALANCE stays", x.told(10), 2);
        x.times(0);
        x.pay(Integer.MIN_VALUE);
        due("32: total(1 << 32, most) of the least", x.total(1L << 32, most), 1);
        due("32: total(least, 0) of the least", x.total(least, 0), HUGE);
        due("32: total(-1, -1) of the least", x.total(-1, -1), 1);
        due("32: total(-1, 0) of the least", x.total(-1, 0), HUGE);
    }

    private static void record() {
        ReorderMind x = Told.rule(new ReorderMind(), "3100");
        due("33: record(0, 0) of none", x.record(0, 0), NONE);
        int[] anyWhat = {0, 2, -1, 3, Integer.MIN_VALUE, Integer.MAX_VALUE};
        for (int what : anyWhat) due("33: record(-1, " + what + ") of none", x.record(-1, what), 0);
        due("34: likely(0) of none", x.likely(0), 1);
        due("34: likely(1) of none", x.likely(1), 1);
        x.day(3);
        for (int i = 0; i < 3; i++) {
            for (int what = 0; what <= 2; what++) {
                due("33: record(" + i + ", " + what + ")", x.record(i, what), TEN[i][what]);
            }
        }
        for (int what : anyWhat) due("33: record(-1, " + what + ")", x.record(-1, what), 3);
        due("33: record(3, 0)", x.record(3, 0), NONE);
        for (int what : anyWhat) due("33: record(-2, " + what + ")", x.record(-2, what), NONE);
        due("33: record(0, 3)", x.record(0, 3), NONE);
        due("33: record(0, -1)", x.record(0, -1), NONE);
        // DEMANDS 3, 0, 2.
        due("34: likely(0)", x.likely(0), 1);
        due("34: likely(1)", x.likely(1), 64);
        due("34: likely(2)", x.likely(2), ReorderMind.NO);
        due("34: likely(-1)", x.likely(-1), ReorderMind.NO);
        Told.read(x, "w2021");
        due("34: likely(0) by ODDS as they are", x.likely(0), 4);
        due("34: likely(1) by ODDS as they are", x.likely(1), 125);
        Told.read(x, "w1110");
        due("34: likely(0), never", x.likely(0), 0);
        due("34: likely(1), never", x.likely(1), 1);
    }

    private static void would() {
        ReorderMind x = new ReorderMind();
        x.store(2, 3);
        Told.read(x, "w3210;r0000");
        String was = Told.all(x);
        int[] zero = {0, 540, 54, 0};
        for (int what = 0; what <= 3; what++) due("35: would(-1, 7, 99, " + what + ")", x.would(-1, 7, 99, what), zero[what]);
        unchanged("35: would", x, was);
        Told.rule(x, "1100");
        x.keep(2);
        Told.rule(x, "0000");
        x.tell(5, 1);
        was = Told.all(x);
        int[] kept = {0, 29, 0, 3};
        for (int what = 0; what <= 3; what++) due("35: would(2, 7, 12, " + what + ")", x.would(2, 7, 12, what), kept[what]);
        due("35: would(2, 7, 0, 0)", x.would(2, 7, 0, 0), 1);
        due("35: would(2, 7, 0, 1)", x.would(2, 7, 0, 1), 0);
        due("35: would(2, 7, 100, 0)", x.would(2, 7, 100, 0), BAD);
        due("35: would(2, 7, -1, 0)", x.would(2, 7, -1, 0), BAD);
        due("35: would(2, 7, 5, 4)", x.would(2, 7, 5, 4), NONE);
        due("35: would(2, 7, 5, -1)", x.would(2, 7, 5, -1), NONE);
        due("35: would(5, 7, 5, 0)", x.would(5, 7, 5, 0), NONE);
        due("35: would(-2, 7, 5, 0)", x.would(-2, 7, 5, 0), NONE);
        due("35: would(1, 7, 100, 0), not KEPT ahead of BAD", x.would(1, 7, 100, 0), STATE);
        due("35: would(1, 7, 100, 4), NONE ahead of all", x.would(1, 7, 100, 4), NONE);
        unchanged("35: would", x, was);
        // BALANCE and GONE have no part in it.
        x.pay(Integer.MIN_VALUE);
        due("35: would by the least BALANCE", x.would(2, 7, 12, 1), 29);

        ReorderMind y = Told.rule(new ReorderMind(), "3100");
        int[] ten = {0, 54, 2, 9};
        for (int what = 0; what <= 3; what++) due("35: would(-1, 1, 10, " + what + ")", y.would(-1, 1, 10, what), ten[what]);
        Told.read(y, "r0000;w0100;c0005;g0");
        due("35: would(4, 0, 3, 3), BEST orders 1 a day", y.would(4, 0, 3, 3), 3);
        due("35: would(4, 0, 3, 2)", y.would(4, 0, 3, 2), 0);
    }

    private static void plan() {
        ReorderMind x = new ReorderMind();
        due("36: plan(3, 0)", x.plan(3, 0), NONE);
        due("36: plan(-2, 9)", x.plan(-2, 9), NONE);
        due("36: plan(0, 4)", x.plan(0, 4), BAD);
        due("36: plan(1, -1)", x.plan(1, -1), BAD);
        due("37: ends(0) of none", x.ends(0), 0);
        due("37: ends(1) of none", x.ends(1), 0);
        due("37: ends(-1)", x.ends(-1), NONE);
        due("37: ends(2)", x.ends(2), NONE);
        for (int i = 1; i <= 8; i++) due("36: plan", x.plan(i % 3, 3), i);
        due("36: plan when full", x.plan(0, 0), FULL);
        due("36: a bad plan when full", x.plan(0, 4), BAD);
        due("42: count(2)", x.count(2), 8);
        due("36: plan(-1, 77)", x.plan(-1, 77), 0);
        due("42: count(2) then", x.count(2), 0);

        x.store(0, 2);
        Told.rule(x, "200");
        x.keep(3);
        Told.rule(x, "100");
        String was = "";
        // 1 with DEMAND 0 leaves 1: 2 + 1 + 1. STOCK 3 is 2 at most; with DEMAND 1 it COSTS 1.
        x.plan(0, 0);
        due("37: ends(0)", x.ends(0), 1);
        due("37: ends(1)", x.ends(1), 4);
        x.plan(1, 3);
        due("37: CAP at most", x.ends(0), 2);
        x.plan(0, 1);
        due("37: ends(1) behind two days", x.ends(1), 5);
        // No KEPT RULE 2: as it was. From 1 with DEMAND 3: 2 are lost, 10.
        x.plan(2, 2);
        x.plan(0, 3);
        due("37: ends(0) behind three", x.ends(0), 0);
        due("37: ends(1) behind three", x.ends(1), 15);
        // KEPT RULE 3 orders 2 from 0: 2 + 2 + 2.
        x.plan(2, 3);
        x.plan(0, 0);
        due("37: ends(0) by the KEPT RULE", x.ends(0), 2);
        due("37: ends(1) by the KEPT RULE", x.ends(1), 21);
        was = Told.all(x);
        x.ends(1);
        unchanged("37: ends", x, was);
        due("37: THE RULE stays", x.ruled(-1, 0), 1);
        x.plan(-1, 0);
        // No KEPT RULE 0: THE RULE goes on, 2 + 1 with DEMAND 1; then it is KEPT, and goes on as KEPT.
        x.plan(2, 0);
        x.plan(0, 1);
        due("37: ends(1) without that KEPT RULE", x.ends(1), 3);
        Told.rule(x, "200");
        x.keep(0);
        Told.rule(x, "100");
        due("37: ends(1) with it", x.ends(1), 5);
        x.plan(-1, 0);
        x.tell(5, 2);
        due("37: from STOCK as it is", x.ends(0), 2);
    }

    public static void main(String[] args) {
        checks = new Checks("TrulyPromisesTest");
        day();
        dayRefused();
        balance();
        total();
        record();
        would();
        plan();
        checks.end();
    }
}
