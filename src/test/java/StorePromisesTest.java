/** Promises 1 to 11: the store. */
public final class StorePromisesTest {
    private static final int NONE = -1, BAD = -2, STATE = -3, FULL = -4;

    private static Checks checks;

    private static void due(String call, long got, long want) {
        checks.due(call, got, want);
    }

    /** Calls that are refused, with how things were ahead of them. */
    private static void unchanged(String what, ReorderMind x, String was) {
        checks.that(Told.all(x).equals(was), what + " changed something");
    }

    private static void newObject() {
        ReorderMind x = new ReorderMind();
        int[] told = {0, 3, 0, 2, 1, 1, 5, 5, 4, 1, 0, 0, 1, 1, 1, 1};
        for (int what = 0; what < told.length; what++) due("1: told(" + what + ")", x.told(what), told[what]);
        for (int s = 0; s <= 3; s++) due("1: ruled(-1, " + s + ")", x.ruled(-1, s), 0);
        for (int i = 0; i <= 3; i++) due("1: ruled(" + i + ", 0)", x.ruled(i, 0), STATE);
        for (int what = 0; what <= 4; what++) due("1: count(" + what + ")", x.count(what), 0);
        for (int tape = 0; tape <= 5; tape++) due("1: peek(" + tape + ", 0)", x.peek(tape, 0), ReorderMind.NO);
        due("1: record(-1, 0)", x.record(-1, 0), 0);
        due("1: undo()", x.undo(), STATE);
        due("1: taken(1)", x.taken(1), -12);
        due("1: ends(0)", x.ends(0), 0);
        due("1: limits(-1, 0)", x.limits(-1, 0), 9);
    }

    private static void store() {
        ReorderMind x = Told.rule(new ReorderMind(), "3100");
        x.tell(5, 2);
        for (int i = 0; i <= 3; i++) x.keep(i);
        x.see(0, 3);
        x.plan(0, 1);
        x.day(3);
        x.feed('g');
        x.tape(4, 2, 3);
        x.weight(2, 0);
        x.tell(0, 7);
        x.tell(4, 3);
        int seed = x.told(9);
        int balance = x.told(10);
        String was = Told.all(x);
        due("2: store(-1, 2)", x.store(-1, 2), NONE);
        due("2: store(3, 2)", x.store(3, 2), NONE);
        due("2: store(3, 9)", x.store(3, 9), NONE);
        due("2: store(0, 0)", x.store(0, 0), BAD);
        due("2: store(2, 4)", x.store(2, 4), BAD);
        unchanged("2: a refused store", x, was);
        due("2: store(2, 2)", x.store(2, 2), 3);
        due("2: KIND", x.told(0), 2);
        due("2: CAP", x.told(1), 2);
        due("2: STOCK", x.told(2), 0);
        for (int s = 0; s <= 2; s++) due("2: ruled(-1, " + s + ")", x.ruled(-1, s), 0);
        due("2: ruled(-1, 3)", x.ruled(-1, 3), NONE);
        for (int i = 0; i <= 3; i++) due("2: ruled(" + i + ", 0)", x.ruled(i, 0), STATE);
        due("2: SEEN", x.count(1), 0);
        due("2: PLAN", x.count(2), 0);
        due("2: KEPT", x.count(3), 0);
        due("2: RECORD", x.count(4), 0);
        due("2: THE TEXT stays", x.count(0), 1);
        due("2: TAPES stay", x.peek(4, 2), 0);
        due("2: FIX stays", x.told(3), 7);
        due("2: TENTHS stay", x.told(7), 3);
        due("2: WEIGHTS stay", x.told(14), 0);
        due("2: SEED stays", x.told(9), seed);
        due("2: BALANCE stays", x.told(10), balance);
        due("2: GONE stays", x.told(11), 3);
        due("2: store(1, 1)", x.store(1, 1), 2);
        due("2: store(0, 3)", x.store(0, 3), 1);
    }

    private static void tell() {
        ReorderMind x = new ReorderMind();
        int[] first = {2, 1, 1, 5, 5, 0};
        int[] most = {9, 9, 9, 20, 9, 3};
        int[] place = {3, 4, 5, 6, 7, 2};
        for (int what = 0; what <= 5; what++) {
            due("3: tell(" + what + ", most)", x.tell(what, most[what]), first[what]);
            due("3: tell(" + what + ", most + 1)", x.tell(what, most[what] + 1), BAD);
            due("3: tell(" + what + ", -1)", x.tell(what, -1), BAD);
            due("3: told(" + place[what] + ")", x.told(place[what]), most[what]);
            due("3: tell(" + what + ", 0)", x.tell(what, 0), most[what]);
            due("3: told then", x.told(place[what]), 0);
        }
        due("3: tell(6, least)", x.tell(6, Integer.MIN_VALUE), 1);
        due("3: tell(6, -9)", x.tell(6, -9), Integer.MIN_VALUE);
        due("3: told(9)", x.told(9), -9);
        due("3: tell(-1, 0)", x.tell(-1, 0), NONE);
        due("3: tell(7, 0)", x.tell(7, 0), NONE);
        due("3: tell(7, -1)", x.tell(7, -1), NONE);
        x.store(0, 1);
        due("3: tell(5, 2) above CAP", x.tell(5, 2), BAD);
        due("3: tell(5, 1)", x.tell(5, 1), 0);
    }

    private static void weight() {
        ReorderMind x = new ReorderMind();
        due("4: weight(-1, 0)", x.weight(-1, 0), NONE);
        due("4: weight(4, 9)", x.weight(4, 9), NONE);
        due("4: weight(0, 6)", x.weight(0, 6), BAD);
        due("4: weight(0, -1)", x.weight(0, -1), BAD);
        due("4: weight(0, 4), SUM 7", x.weight(0, 4), BAD);
        due("4: told(12)", x.told(12), 1);
        due("4: weight(0, 3), SUM 6", x.weight(0, 3), 1);
        due("4: SUM", x.told(8), 6);
        due("4: weight(0, 0)", x.weight(0, 0), 3);
        due("4: weight(1, 0)", x.weight(1, 0), 1);
        due("4: weight(3, 0)", x.weight(3, 0), 1);
        due("4: weight(2, 0), SUM 0", x.weight(2, 0), BAD);
        due("4: weight(2, 5)", x.weight(2, 5), 1);
        due("4: weight(2, 6), SUM 6", x.weight(2, 6), BAD);
        due("4: told(14)", x.told(14), 5);
        due("4: SUM then", x.told(8), 5);
    }

    private static void order() {
        ReorderMind x = new ReorderMind();
        due("5: order(-1, 0)", x.order(-1, 0), NONE);
        due("5: order(4, -1)", x.order(4, -1), NONE);
        due("5: order(0, 4)", x.order(0, 4), BAD);
        due("5: order(2, 2)", x.order(2, 2), BAD);
        due("5: order(2, -1)", x.order(2, -1), BAD);
        due("5: order(3, 0)", x.order(3, 0), 0);
        due("5: order(2, 1)", x.order(2, 1), 0);
        due("5: order(2, 0)", x.order(2, 0), 1);
        due("5: order(0, 3)", x.order(0, 3), 0);
        due("5: ruled(-1, 0)", x.ruled(-1, 0), 3);
        x.store(1, 1);
        due("5: order(2, 0) above CAP", x.order(2, 0), NONE);
        due("5: order(0, 2) above CAP", x.order(0, 2), BAD);
    }

    private static void feed() {
        ReorderMind x = new ReorderMind();
        due("6: feed(-1)", x.feed(-1), BAD);
        due("6: feed(128)", x.feed(128), BAD);
        for (int i = 1; i <= 60; i++) due("6: feed", x.feed(i % 2 == 0 ? 0 : 127), i);
        due("6: feed when full", x.feed(5), FULL);
        due("6: a bad feed when full", x.feed(200), BAD);
        due("6: count(0)", x.count(0), 60);
        due("6: read()", x.read(), -10);
        due("6: feed behind read()", x.feed('g'), 1);
    }

    private static void read() {
        ReorderMind x = Told.rule(new ReorderMind(), "1000");
        due("7: one of each", Told.read(x, "w0321;c9876;g0;r3011"), -10 - 19);
        due("7: one of each, well", Told.read(x, "w0321;c9876;g0;r3010"), 4);
        int[] told = {9, 8, 7, 6, 0, 6};
        for (int i = 0; i < told.length; i++) due("7: told(" + (3 + i) + ")", x.told(3 + i), told[i]);
        int[] weights = {0, 3, 2, 1};
        for (int d = 0; d <= 3; d++) due("7: told(" + (12 + d) + ")", x.told(12 + d), weights[d]);
        int[] rule = {3, 0, 1, 0};
        for (int s = 0; s <= 3; s++) due("7: ruled(-1, " + s + ")", x.ruled(-1, s), rule[s]);
        due("7: the text is empty", x.count(0), 0);
        due("7: a letter twice", Told.read(x, "g1;g2;g3;g4;g5;g6"), 6);
        due("7: what comes later counts", x.told(7), 6);
        String was = Told.all(x);
        String[] texts = {"", "x", "W1111", "g", "g:", "g1:", "g1;", "g1;g1;g1;g1;g1;g1;", "g1;g1;g1;g1;g1;g1;g1", "g12",
            "w", "w1", "w6", "w0000", "w3310", "w5555", "w000", "w00006", "w55x", "w1/11", "w1:11", "c000", "c12345",
            "c12 4", "r", "r4", "r33", "r3220", "r3211", "r321", "r32100", "g5;w0000", "g5;g6;w2220;g9", "c9999;r3",
            " g1", "g1 ", "\0", "g\177"};
        int[] faults = {0, 0, 0, 1, 1, 2, 3, 17, 17, 2,
            1, 2, 1, 4, 4, 4, 4, 4, 3, 2, 2, 4, 5,
            3, 1, 1, 2, 3, 4, 4, 5, 7, -1, 8,
            0, 2, 0, 1};
        for (int i = 0; i < texts.length; i++) {
            boolean isFault = faults[i] >= 0;
            due("7: read of '" + texts[i] + "'", Told.read(x, texts[i]), isFault ? -10 - faults[i] : 4);
            due("7: the text is empty behind '" + texts[i] + "'", x.count(0), 0);
            if (isFault) unchanged("7: '" + texts[i] + "'", x, was);
            else was = Told.all(x);
        }
        x.store(0, 1);
        due("7: CAP 1", Told.read(x, "r10"), 1);
        due("7: CAP 1, an order above it", Told.read(x, "r20"), -11);
        due("7: CAP 1, too many orders", Told.read(x, "r100"), -13);
    }

    private static void keepAndUse() {
        ReorderMind x = Told.rule(new ReorderMind(), "3210");
        due("8: keep(-1)", x.keep(-1), NONE);
        due("8: keep(4)", x.keep(4), NONE);
        due("8: keep(3)", x.keep(3), 0);
        Told.rule(x, "3001");
        due("8: keep(0)", x.keep(0), 0);
        due("8: ruled(3, 1)", x.ruled(3, 1), 2);
        due("8: ruled(0, 1)", x.ruled(0, 1), 0);
        due("8: count(3)", x.count(3), 2);
        due("9: use(-1)", x.use(-1), NONE);
        due("9: use(4)", x.use(4), NONE);
        due("9: use(1)", x.use(1), STATE);
        due("9: use(3)", x.use(3), 2);
        due("9: ruled(-1, 2)", x.ruled(-1, 2), 1);
        due("9: use(3) again", x.use(3), 0);
        x.order(0, 0);
        due("9: what is KEPT stays", x.ruled(3, 0), 3);
        due("8: keep(3) again", x.keep(3), 1);
        due("8: the newer one is KEPT", x.ruled(3, 0), 0);
        due("9: use(0)", x.use(0), 3);
    }

    private static void toldAndRuled() {
        ReorderMind x = Told.rule(new ReorderMind(), "1200");
        due("10: told(-1)", x.told(-1), NONE);
        due("10: told(16)", x.told(16), NONE);
        x.store(1, 2);
        x.tell(5, 2);
        x.day(2);
        due("10: KIND", x.told(0), 1);
        due("10: CAP", x.told(1), 2);
        due("10: GONE", x.told(11), 2);
        x.pay(77);
        int balance = x.told(10);
        x.pay(-3);
        due("10: BALANCE", x.told(10), balance - 3);

        ReorderMind y = Told.rule(Told.small(), "00");
        due("11: ruled(-2, 0)", y.ruled(-2, 0), NONE);
        due("11: ruled(5, 0)", y.ruled(5, 0), NONE);
        due("11: ruled(0, 2), no such stock ahead of none kept", y.ruled(0, 2), NONE);
        due("11: ruled(0, -1)", y.ruled(0, -1), NONE);
        due("11: ruled(2, 0)", y.ruled(2, 0), STATE);
        due("11: ruled(-1, 0)", y.ruled(-1, 0), 0);
        due("11: ruled(4, 0)", y.ruled(4, 0), 1);
        due("11: ruled(4, 1)", y.ruled(4, 1), 0);
        due("11: THE RULE stays", y.ruled(-1, 0), 0);
    }

    public static void main(String[] args) {
        checks = new Checks("StorePromisesTest");
        newObject();
        store();
        tell();
        weight();
        order();
        feed();
        read();
        keepAndUse();
        toldAndRuled();
        checks.end();
    }
}
