/** All that can be found out of an object: two with the same things in them tell the same. It is used up by this. */
final class Everything {
    private static final int NOTHING = -11;

    private final ReorderMind x;
    private final StringBuilder all = new StringBuilder();

    private Everything(ReorderMind x) {
        this.x = x;
    }

    static String of(ReorderMind x) {
        Everything one = new Everything(x);
        one.tapes();
        one.state("now");
        one.add("undo", x.undo());
        one.state("image");
        one.add("read", x.read());
        one.numbers();
        return one.all.toString();
    }

    private void add(String name, long v) {
        all.append(name).append(' ').append(v).append('\n');
    }

    private void state(String name) {
        all.append(name).append('\n');
        numbers();
        seen();
        planned();
    }

    private void numbers() {
        for (int what = 0; what <= 15; what++) add("told", x.told(what));
        for (int rule = -1; rule <= 3; rule++) {
            for (int s = 0; s <= x.told(1); s++) add("ruled", x.ruled(rule, s));
        }
        for (int what = 0; what <= 4; what++) add("count", x.count(what));
        for (int i = 0; i < x.count(4); i++) {
            for (int what = 0; what <= 2; what++) add("record", x.record(i, what));
        }
    }

    /** The rows SEEN show by what fits alone: so by some COSTS. */
    private void seen() {
        int[] were = new int[5];
        int[][] costs = {{0, 0, 0, 0, 0}, {9, 0, 1, 20, 5}, {0, 1, 9, 3, 0}};
        for (int what = 0; what <= 4; what++) were[what] = x.told(3 + what);
        for (int k = -1; k < costs.length; k++) {
            for (int what = 0; k >= 0 && what <= 4; what++) x.tell(what, costs[k][what]);
            for (int sort = 0; sort <= 2; sort++) {
                for (int what = 0; what <= 1; what++) add("fits", x.fits(sort, what));
            }
        }
        for (int what = 0; what <= 4; what++) x.tell(what, were[what]);
    }

    /** The rows of the PLAN show by where it ends: from each STOCK, with four unlike KEPT RULES. */
    private void planned() {
        for (int s = 0; s <= x.told(1); s++) add("ends", x.tell(5, s) * 0 + 100 * x.ends(0) + x.ends(1));
        for (int i = 0; i <= 3; i++) {
            for (int s = 0; s <= x.told(1); s++) x.order(s, Math.max(0, Math.min(x.told(1) - s, i - s)));
            x.keep(i);
        }
        for (int s = 0; s <= x.told(1); s++) add("ends", x.tell(5, s) * 0 + 100 * x.ends(0) + x.ends(1));
    }

    private void tapes() {
        for (int tape = 0; tape <= 5; tape++) {
            for (int i = 0; x.peek(tape, i) != ReorderMind.NO; i++) add("peek", x.peek(tape, i));
            boolean isThere = x.item(tape, 0, 0x0123456789ABCDEFL) != NOTHING;
            add(isThere ? "row" : "nothing", x.peek(tape, 0));
            for (int other = 0; other < tape; other++) add("sorts", x.shift(tape, 0, other, 0, 0));
        }
    }
}
