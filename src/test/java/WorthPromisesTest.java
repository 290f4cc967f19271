/** Promises 12 to 19: rows, worth. */
public final class WorthPromisesTest {
    private static final int NONE = -1, STATE = -3;
    private static final long NO = ReorderMind.NO;

    private static Checks checks;

    private static void due(String call, long got, long want) {
        checks.due(call, got, want);
    }

    private static void fraction(String call, long gotAbove, long gotBelow, long above, long below) {
        due(call + ", above", gotAbove, above);
        due(call + ", below", gotBelow, below);
    }

    private static void row() {
        ReorderMind x = new ReorderMind();
        Told.read(x, "w0321");
        fraction("12: row(2, 1, 2)", x.row(2, 1, 2, 0), x.row(2, 1, 2, 1), 1, 2);
        fraction("12: row(2, 1, 1)", x.row(2, 1, 1, 0), x.row(2, 1, 1, 1), 1, 3);
        fraction("12: row(2, 1, 0)", x.row(2, 1, 0, 0), x.row(2, 1, 0, 1), 1, 6);
        fraction("12: row(2, 1, 3)", x.row(2, 1, 3, 0), x.row(2, 1, 3, 1), 0, 1);
        fraction("12: row(1, 0, 0)", x.row(1, 0, 0, 0), x.row(1, 0, 0, 1), 1, 1);
        due("12: row(-1, 0, 0)", x.row(-1, 0, 0, 0), NO);
        due("12: row(4, 0, 0)", x.row(4, 0, 0, 0), NO);
        due("12: row(2, 2, 0)", x.row(2, 2, 0, 0), NO);
        due("12: row(2, -1, 0)", x.row(2, -1, 0, 0), NO);
        due("12: row(2, 1, 4)", x.row(2, 1, 4, 0), NO);
        due("12: row(2, 1, -1)", x.row(2, 1, -1, 0), NO);
        due("12: row, part 2", x.row(2, 1, 0, 2), NO);
        due("12: row, part -1", x.row(2, 1, 0, -1), NO);
        x.store(1, 3);
        Told.read(x, "w3111");
        // LEFT 3, 2, 1, 0 become 2, 1, 1, 0.
        fraction("12: FRESH row(3, 0, 3)", x.row(3, 0, 3, 0), x.row(3, 0, 3, 1), 0, 1);
        fraction("12: FRESH row(3, 0, 2)", x.row(3, 0, 2, 0), x.row(3, 0, 2, 1), 1, 2);
        fraction("12: FRESH row(3, 0, 1)", x.row(3, 0, 1, 0), x.row(3, 0, 1, 1), 1, 3);
        fraction("12: FRESH row(3, 0, 0)", x.row(3, 0, 0, 0), x.row(3, 0, 0, 1), 1, 6);
        x.store(2, 2);
        due("12: row above CAP", x.row(3, 0, 0, 0), NO);
        fraction("12: OWING row(0, 2, 2)", x.row(0, 2, 2, 0), x.row(0, 2, 2, 1), 1, 2);
    }

    private static void cost() {
        ReorderMind x = new ReorderMind();
        Told.read(x, "w0321;c9768");
        // From 1 with 1: 9 + 7; DEMANDS 1, 2, 3 leave 1, 0, 0 and lose 0, 0, 1: 122 / 6.
        fraction("13: cost(1, 1)", x.cost(1, 1, 0), x.cost(1, 1, 1), 61, 3);
        // Nothing ordered: no FIX.
        fraction("13: cost(3, 0)", x.cost(3, 0, 0), x.cost(3, 0, 1), 8, 1);
        fraction("13: cost(0, 0)", x.cost(0, 0, 0), x.cost(0, 0, 1), 40, 3);
        x.store(1, 3);
        // FRESH keeps what is left behind the half: 2 left is 1, 1 left is 1.
        fraction("13: FRESH cost(3, 0)", x.cost(3, 0, 0), x.cost(3, 0, 1), 5, 1);
        x.store(2, 3);
        fraction("13: OWING cost(0, 0)", x.cost(0, 0, 0), x.cost(0, 0, 1), 80, 3);
        // Lacking counts twice from 0 even with an ORDER (160 / 6); from 1 once.
        fraction("13: OWING cost(0, 1)", x.cost(0, 1, 0), x.cost(0, 1, 1), 80, 3);
        fraction("13: OWING cost(1, 0)", x.cost(1, 0, 0), x.cost(1, 0, 1), 16, 3);
        due("13: cost(4, 0)", x.cost(4, 0, 0), NO);
        due("13: cost(-1, 0)", x.cost(-1, 0, 0), NO);
        due("13: cost(3, 1)", x.cost(3, 1, 0), NO);
        due("13: cost(0, -1)", x.cost(0, -1, 0), NO);
        due("13: cost, part 2", x.cost(0, 0, 2), NO);
    }

    private static void worthAndAct() {
        fraction("15: act(-1, 0, 1) as the first call", Told.small().act(-1, 0, 1, 0), Told.small().act(-1, 0, 1, 1), 20, 3);
        ReorderMind x = Told.small();
        // W0 = 9/2 + W0/2; W1 = 1/2 + W1/4 + W0/4.
        fraction("14: worth(-1, 0)", x.worth(-1, 0, 0), x.worth(-1, 0, 1), 9, 1);
        fraction("14: worth(-1, 1)", x.worth(-1, 1, 0), x.worth(-1, 1, 1), 11, 3);
        fraction("14: worth(4, 0)", x.worth(4, 0, 0), x.worth(4, 0, 1), 11, 2);
        fraction("14: worth(4, 1)", x.worth(4, 1, 0), x.worth(4, 1, 1), 5, 2);
        fraction("15: act(-1, 0, 0)", x.act(-1, 0, 0, 0), x.act(-1, 0, 0, 1), 9, 1);
        fraction("15: act(-1, 0, 1)", x.act(-1, 0, 1, 0), x.act(-1, 0, 1, 1), 20, 3);
        fraction("15: act(4, 0, 0)", x.act(4, 0, 0, 0), x.act(4, 0, 0, 1), 29, 4);
        x.keep(2);
        x.order(0, 1);
        fraction("14: worth(2, 0)", x.worth(2, 0, 0), x.worth(2, 0, 1), 9, 1);
        fraction("14: worth(-1, 0) then", x.worth(-1, 0, 0), x.worth(-1, 0, 1), 11, 2);
        fraction("15: act(2, 0, 1)", x.act(2, 0, 1, 0), x.act(2, 0, 1, 1), 20, 3);
        due("14: worth(1, 0)", x.worth(1, 0, 0), NO);
        due("14: worth(5, 0)", x.worth(5, 0, 0), NO);
        due("14: worth(-2, 0)", x.worth(-2, 0, 0), NO);
        due("14: worth(-1, 2)", x.worth(-1, 2, 0), NO);
        due("14: worth(-1, -1)", x.worth(-1, -1, 0), NO);
        due("14: worth, part 2", x.worth(-1, 0, 2), NO);
        due("15: act(1, 0, 0)", x.act(1, 0, 0, 0), NO);
        due("15: act(5, 0, 0)", x.act(5, 0, 0, 0), NO);
        due("15: act(-1, 2, 0)", x.act(-1, 2, 0, 0), NO);
        due("15: act(-1, 1, 1)", x.act(-1, 1, 1, 0), NO);
        due("15: act(-1, 1, -1)", x.act(-1, 1, -1, 0), NO);
        due("15: act, part -1", x.act(-1, 1, 0, -1), NO);
        x.tell(4, 0);
        fraction("14: worth by no TENTHS", x.worth(-1, 1, 0), x.worth(-1, 1, 1), 1, 2);
        x.tell(2, 0);
        fraction("14: worth of nothing", x.worth(-1, 1, 0), x.worth(-1, 1, 1), 0, 1);
    }

    private static void better() {
        ReorderMind x = Told.small();
        due("16: better(-1, 0)", x.better(-1, 0), 1);
        due("16: better(-1, 1)", x.better(-1, 1), 0);
        due("16: better(-1, 2)", x.better(-1, 2), NONE);
        due("16: better(-2, 0)", x.better(-2, 0), NONE);
        due("16: better(5, 0)", x.better(5, 0), NONE);
        due("16: better(0, 3), no such stock ahead of none kept", x.better(0, 3), NONE);
        due("16: better(0, 0)", x.better(0, 0), STATE);
        due("16: better(4, 0)", x.better(4, 0), 1);

        // DEMAND 1 always, only lacking costs: 1, 2 and 3 are alike from 0.
        ReorderMind y = new ReorderMind();
        Told.read(y, "w0100;c0005;g0");
        due("16: of like ones the least", y.better(-1, 0), 1);
        Told.rule(y, "2000");
        due("16: of like ones the RULE's", y.better(-1, 0), 2);
        Told.rule(y, "3000");
        due("16: of like ones the RULE's, the greatest", y.better(-1, 0), 3);
        due("16: nothing else is asked for", y.better(-1, 1), 0);
    }

    private static void rounds() {
        ReorderMind x = Told.small();
        due("18: best(0)", x.best(0), 1);
        due("18: best(1)", x.best(1), 1);
        due("18: best(2)", x.best(2), NONE);
        due("18: best(-1)", x.best(-1), NONE);
        fraction("19: regret(0)", x.regret(0, 0), x.regret(0, 1), 7, 2);
        fraction("19: regret(1)", x.regret(1, 0), x.regret(1, 1), 7, 6);
        due("19: regret(2)", x.regret(2, 0), NO);
        due("19: regret(-1)", x.regret(-1, 0), NO);
        due("19: regret, part 2", x.regret(0, 2), NO);
        due("17: round()", x.round(), 1);
        due("17: ruled(-1, 0)", x.ruled(-1, 0), 1);
        due("17: round() again", x.round(), 0);
        due("18: best(0) then", x.best(0), 0);
        due("18: best(1) then", x.best(1), 0);
        fraction("19: regret(0) then", x.regret(0, 0), x.regret(0, 1), 0, 1);

        // All STOCKS go by the WORTH ahead; the second ROUND takes one ORDER back.
        ReorderMind y = new ReorderMind();
        due("18: best(0) of a new one", y.best(0), 2);
        due("17: the first round()", y.round(), 2);
        due("17: ruled(-1, 1)", y.ruled(-1, 1), 2);
        due("17: the second round()", y.round(), 1);
        due("17: ruled(-1, 1) then", y.ruled(-1, 1), 0);
        due("17: the third round()", y.round(), 0);

        // BEST is what THE RULE comes to: of like ones it stays by THE RULE.
        ReorderMind z = Told.rule(new ReorderMind(), "2000");
        Told.read(z, "w0100;c0005;g0");
        due("18: best(1) of like ones", z.best(1), 0);
        due("18: ruled(4, 0) of like ones", z.ruled(4, 0), 2);
        z.order(0, 0);
        due("18: ruled(4, 0) from another one", z.ruled(4, 0), 1);
    }

    public static void main(String[] args) {
        checks = new Checks("WorthPromisesTest");
        row();
        cost();
        worthAndAct();
        better();
        rounds();
        checks.end();
    }
}
