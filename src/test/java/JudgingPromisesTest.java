/** Promises 38 to 46: judging, the image, tapes. */
public final class JudgingPromisesTest {
    private static final int NONE = -1, BAD = -2, STATE = -3, NOTHING = -11, CAST = -12, PLACE = -13, SIZE = -14;
    private static final int BYTES = 0, SHORTS = 1, INTS = 2, LONGS = 3, BOOLEANS = 4;
    private static final long NO = ReorderMind.NO;

    private static Checks checks;

    private static void due(String call, long got, long want) {
        checks.due(call, got, want);
    }

    private static void unchanged(String what, ReorderMind x, String was) {
        checks.that(Told.all(x).equals(was), what + " changed something");
    }

    private static void fill(ReorderMind x, int tape, int sort, long... items) {
        x.tape(tape, sort, items.length);
        for (int i = 0; i < items.length; i++) x.item(tape, i, items[i]);
    }

    private static void holds(String what, ReorderMind x, int tape, long... items) {
        for (int i = 0; i < items.length; i++) due(what + ", item " + i, x.peek(tape, i), items[i]);
        due(what + ", its end", x.peek(tape, items.length), NO);
    }

    private static void judge() {
        ReorderMind x = Told.rule(new ReorderMind(), "3100");
        fill(x, 0, BYTES, 3, 1, 0, 0, 3, 1, 0);
        due("38: judge(-1, 0, 0)", x.judge(-1, 0, 0), -5);
        due("38: judge(-1, 0, 1)", x.judge(-1, 0, 1), 0);
        due("38: judge(-1, 0, 4), it ends ahead", x.judge(-1, 0, 4), 103);
        due("38: judge(-1, 0, 6), otherwise ahead of the end", x.judge(-1, 0, 6), 0);
        due("38: judge(-1, 0, 7)", x.judge(-1, 0, 7), 100);
        due("38: judge(-1, 0, most)", x.judge(-1, 0, Integer.MAX_VALUE), 100);
        due("38: judge(-1, 0, -1)", x.judge(-1, 0, -1), 100);
        due("38: judge(-1, 0, least)", x.judge(-1, 0, Integer.MIN_VALUE), 100);
        due("38: judge(-1, 1, 0), it holds nothing", x.judge(-1, 1, 0), 100);
        x.order(2, 1);
        due("38: the third is otherwise", x.judge(-1, 0, 0), 2);
        x.keep(1);
        x.order(2, 0);
        due("38: judge(1, 0, 0)", x.judge(1, 0, 0), 2);
        due("38: judge(0, 0, 0)", x.judge(0, 0, 0), STATE);
        due("38: judge(0, 6, 0), no such tape ahead of none kept", x.judge(0, 6, 0), NONE);
        due("38: judge(-1, -1, 0)", x.judge(-1, -1, 0), NONE);
        due("38: judge(5, 0, 0)", x.judge(5, 0, 0), NONE);
        due("38: judge(-2, 0, 0)", x.judge(-2, 0, 0), NONE);
        for (int sort = SHORTS; sort <= BOOLEANS; sort++) {
            x.tape(2, sort, 4);
            due("38: judge of sort " + sort, x.judge(-1, 2, 0), CAST);
            due("38: judge of sort " + sort + " from -1", x.judge(-1, 2, -1), CAST);
            due("38: none kept ahead of CAST", x.judge(0, 2, 0), STATE);
        }
        x.tape(2, BYTES, 0);
        due("38: judge of a row of none", x.judge(-1, 2, 0), 100);
        x.store(0, 1);
        x.order(0, 1);
        fill(x, 3, BYTES, 9, 1, 0);
        due("38: CAP 1", x.judge(-1, 3, 1), -5);
        due("38: CAP 1, it ends ahead", x.judge(-1, 3, 2), 0);
        fill(x, 3, BYTES, 257, 256);
        due("38: bytes are cut", x.judge(-1, 3, 0), -5);
        Told.read(x, "w1100;c2119;g5;r00");
        due("38: BEST", x.judge(4, 3, 0), -5);
    }

    private static void image() {
        ReorderMind x = Told.rule(new ReorderMind(), "3100");
        due("40: undo() of none", x.undo(), STATE);
        x.store(2, 2);
        Told.read(x, "w0321;c1234;g7;r210");
        x.keep(0);
        x.keep(3);
        x.order(0, 1);
        x.see(0, 2);
        x.plan(0, 1);
        x.plan(2, 3);
        x.tell(6, 99);
        x.pay(1000);
        x.day(4);
        x.feed('g');
        fill(x, 0, BYTES, 5);
        String was = Told.all(x);
        due("39: image()", x.image(), 4);
        unchanged("39: image()", x, was);
        x.day(5);
        x.keep(1);
        x.order(1, 0);
        x.see(1, 0);
        x.plan(1, 1);
        x.tell(5, 1);
        x.times(3);
        Told.read(x, "6;w1111;c9999");
        x.store(1, 3);
        x.keep(1);
        fill(x, 0, BYTES, 5);
        x.feed('z');
        due("40: undo()", x.undo(), 4);
        unchanged("40: what lies between image() and undo()", x, was);
        due("40: SEEN is there", x.fits(0, 0) >= 0 ? x.count(1) : -1, 1);
        due("40: THE TEXT stays as it is", x.read(), -10);
        x.item(0, 0, 9);
        x.day(2);
        due("40: undo() again", x.undo(), 4);
        due("40: TAPES stay as they are", x.peek(0, 0), 9);
        x.day(1);
        due("39: image() again", x.image(), 5);
        x.day(1);
        due("40: undo() to the newer one", x.undo(), 5);
        // The image is its own: what comes later does not reach it.
        x.order(0, 0);
        x.weight(1, 0);
        x.undo();
        due("40: THE RULE", x.ruled(-1, 0), 1);
        due("40: WEIGHTS", x.told(13), 3);
    }

    private static void takenAndCount() {
        ReorderMind x = new ReorderMind();
        for (int kind = 0; kind <= 2; kind++) {
            x.store(kind, 2);
            for (int k = 0; k <= 2; k++) {
                due("41: taken(" + k + ") of " + kind, x.taken(k), k == 0 || k == kind ? kind : CAST);
            }
            due("41: taken(-1)", x.taken(-1), BAD);
            due("41: taken(3)", x.taken(3), BAD);
        }
        x.feed(1);
        x.feed(2);
        for (int i = 0; i < 3; i++) x.see(0, 0);
        for (int i = 0; i < 4; i++) x.plan(0, 0);
        for (int i = 0; i < 3; i++) x.keep(i);
        x.day(6);
        int[] counts = {2, 3, 4, 3, 6};
        for (int what = 0; what <= 4; what++) due("42: count(" + what + ")", x.count(what), counts[what]);
        due("42: count(5)", x.count(5), BAD);
        due("42: count(-1)", x.count(-1), BAD);
    }

    private static void tape() {
        ReorderMind x = new ReorderMind();
        due("43: tape(-1, 0, 1)", x.tape(-1, 0, 1), NONE);
        due("43: tape(6, 9, -1)", x.tape(6, 9, -1), NONE);
        due("43: tape(0, -2, 1)", x.tape(0, -2, 1), BAD);
        due("43: tape(0, 5, -1)", x.tape(0, 5, -1), BAD);
        due("43: tape(0, 0, 61)", x.tape(0, 0, 61), BAD);
        due("43: tape(0, 0, -1)", x.tape(0, 0, -1), SIZE);
        due("43: tape(0, 0, least)", x.tape(0, 0, Integer.MIN_VALUE), SIZE);
        due("43: it holds nothing still", x.item(0, 0, 1), NOTHING);
        for (int sort = BYTES; sort <= BOOLEANS; sort++) {
            due("43: tape(5, " + sort + ", 60)", x.tape(5, sort, 60), 1);
            due("43: the last is 0", x.peek(5, 59), 0);
            due("43: beyond it", x.peek(5, 60), NO);
            due("44: item(5, 59, 1)", x.item(5, 59, 1), 1);
        }
        due("43: a refused one", x.tape(5, 0, 61), BAD);
        due("43: a refused one changes nothing", x.peek(5, 59), 1);
        due("43: tape(5, 0, 0)", x.tape(5, 0, 0), 1);
        due("43: a row of none is a row", x.item(5, 0, 1), PLACE);
        due("43: tape(5, -1, 99)", x.tape(5, -1, 99), 1);
        due("43: tape(5, -1, -99)", x.tape(5, -1, -99), 1);
        due("43: it holds nothing", x.item(5, 0, 1), NOTHING);
    }

    private static void items() {
        ReorderMind x = new ReorderMind();
        long v = 0x8000000180018001L;
        fill(x, 0, BYTES, v, 127, 128, 255, 256, -1, -129);
        holds("44: bytes", x, 0, 1, 127, -128, -1, 0, -1, 127);
        fill(x, 1, SHORTS, v, 32767, 32768, 65536, -1);
        holds("44: shorts", x, 1, -32767, 32767, -32768, 0, -1);
        fill(x, 2, INTS, v, 1L << 31, 1L << 32, -1);
        holds("44: ints", x, 2, 0x80018001, Integer.MIN_VALUE, 0, -1);
        fill(x, 3, LONGS, v, Long.MAX_VALUE, Long.MIN_VALUE, -1);
        holds("44: longs", x, 3, v, Long.MAX_VALUE, Long.MIN_VALUE, -1);
        fill(x, 4, BOOLEANS, v, 0, 1, 256, -1, Long.MIN_VALUE);
        holds("44: booleans", x, 4, 1, 0, 1, 1, 1, 1);
        due("44: item(-1, 0, 0)", x.item(-1, 0, 0), NONE);
        due("44: item(6, 0, 0)", x.item(6, 0, 0), NONE);
        due("44: item(5, -1, 0)", x.item(5, -1, 0), NOTHING);
        due("44: item(1, -1, 0)", x.item(1, -1, 0), PLACE);
        due("44: item(1, 5, 0)", x.item(1, 5, 0), PLACE);
        due("44: item(1, most, 0)", x.item(1, Integer.MAX_VALUE, 0), PLACE);
        due("45: peek(-1, 0)", x.peek(-1, 0), NO);
        due("45: peek(6, 0)", x.peek(6, 0), NO);
        due("45: peek(5, 0)", x.peek(5, 0), NO);
        due("45: peek(1, -1)", x.peek(1, -1), NO);
        due("45: peek(1, 5)", x.peek(1, 5), NO);
        due("45: peek(1, least)", x.peek(1, Integer.MIN_VALUE), NO);
        due("43: a row anew", x.tape(3, LONGS, 4), 1);
        holds("43: it is all 0", x, 3, 0, 0, 0, 0);
    }

    private static void shift() {
        ReorderMind x = new ReorderMind();
        fill(x, 0, INTS, 1, 2, 3, 4, 5);
        fill(x, 1, INTS, 9, 8, 7);
        due("46: shift(0, 1, 1, 0, 3)", x.shift(0, 1, 1, 0, 3), 3);
        holds("46: it came", x, 1, 2, 3, 4);
        holds("46: and is there still", x, 0, 1, 2, 3, 4, 5);
        due("46: upward over itself", x.shift(0, 0, 0, 1, 4), 4);
        holds("46: as they all were before", x, 0, 1, 1, 2, 3, 4);
        due("46: downward over itself", x.shift(0, 1, 0, 0, 4), 4);
        holds("46: as they all were", x, 0, 1, 2, 3, 4, 4);
        due("46: onto itself", x.shift(0, 0, 0, 0, 5), 5);
        due("46: none, at the ends", x.shift(0, 5, 1, 3, 0), 0);
        String was = Told.all(x);
        fill(x, 2, LONGS, 1, 2);
        x.tape(2, -1, 0);
        int least = Integer.MIN_VALUE;
        int most = Integer.MAX_VALUE;
        int[][] places = {{-1, 0, 1}, {0, -1, 1}, {0, 0, -1}, {5, 0, 1}, {0, 3, 1}, {3, 0, 3}, {0, 1, 3}, {6, 0, 0}, {0, 4, 0},
            {-1, 0, 0}, {0, -1, 0}, {most, 0, 1}, {0, most, 1}, {1, 1, most}, {least, 0, 1}, {0, least, 1}, {0, 0, least},
            {most, most, most}, {0, 0, 4}};
        for (int[] one : places) {
            due("46: shift from " + one[0] + " to " + one[1] + ", " + one[2], x.shift(0, one[0], 1, one[1], one[2]), PLACE);
        }
        due("46: shift(-1, 0, 0, 0, 0)", x.shift(-1, 0, 0, 0, 0), NONE);
        due("46: shift(0, 0, 6, 0, 0)", x.shift(0, 0, 6, 0, 0), NONE);
        due("46: shift(6, 0, 2, 0, 0)", x.shift(6, 0, 2, 0, 0), NONE);
        due("46: shift(0, 9, 2, 0, 0)", x.shift(0, 9, 2, 0, 0), NOTHING);
        due("46: shift(2, 0, 0, 0, -1)", x.shift(2, 0, 0, 0, -1), NOTHING);
        unchanged("46: what is refused", x, was);
        x.tape(2, LONGS, 3);
        due("46: shift(0, 0, 2, 0, 0)", x.shift(0, 0, 2, 0, 0), CAST);
        due("46: shift(2, -1, 1, 0, 9)", x.shift(2, -1, 1, 0, 9), CAST);
        x.tape(2, SHORTS, 3);
        x.tape(3, BOOLEANS, 3);
        due("46: shorts to booleans", x.shift(2, 0, 3, 0, 1), CAST);
    }

    public static void main(String[] args) {
        checks = new Checks("JudgingPromisesTest");
        judge();
        image();
        takenAndCount();
        tape();
        items();
        shift();
        checks.end();
    }
}
