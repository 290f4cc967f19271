/** What the tests of the promises tell again and again. */
final class Told {
    private Told() {
    }

    /** THE TEXT is fed and read: what read() answers. */
    static int read(ReorderMind x, String text) {
        for (int i = 0; i < text.length(); i++) {
            x.feed(text.charAt(i));
        }
        return x.read();
    }

    /** A small store, whose numbers can be reckoned by hand: PLAIN, CAP 1, DEMANDS 0 and 1 alike, LACK 9. */
    static ReorderMind small() {
        ReorderMind x = new ReorderMind();
        x.store(0, 1);
        read(x, "w1100;c2119;g5");
        return x;
    }

    /** THE RULE, an ORDER a digit; -1 behind refused ones. */
    static ReorderMind rule(ReorderMind x, String orders) {
        for (int s = 0; s < orders.length(); s++) {
            x.order(s, orders.charAt(s) - '0');
        }
        return x;
    }

    /** All that can be told of how things are, as a text: refusals must leave it as it was. */
    static String all(ReorderMind x) {
        StringBuilder all = new StringBuilder();
        for (int what = 0; what <= 15; what++) all.append(x.told(what)).append(' ');
        for (int rule = -1; rule <= 3; rule++) {
            for (int s = 0; s <= 3; s++) all.append(x.ruled(rule, s)).append(' ');
        }
        for (int what = 0; what <= 4; what++) all.append(x.count(what)).append(' ');
        for (int i = 0; i < x.record(-1, 0); i++) {
            for (int what = 0; what <= 2; what++) all.append(x.record(i, what)).append(' ');
        }
        all.append(x.ends(0)).append(' ').append(x.ends(1)).append(' ');
        for (int tape = 0; tape <= 5; tape++) {
            for (int i = 0; i < 60; i++) all.append(x.peek(tape, i) == ReorderMind.NO ? "" : x.peek(tape, i) + " ");
            all.append(';');
        }
        return all.toString();
    }
}
