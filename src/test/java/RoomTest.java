import java.lang.management.ManagementFactory;

/** All calls of a run live in one room: behind the constructor no call makes an object. */
public final class RoomTest {
    private static final int CALLS = 512, MOST_BYTES = 20_000, MOST_MINDS = 20_000;

    private static long rest;

    private static void callAll(ReorderMind x, int i) {
        int s = i % 4;
        int rule = i % 6 - 1;
        rest += x.feed(i % 128) + x.read() + x.keep(s) + x.use(s) + x.tell(4, i % 10) + x.weight(s, i % 3);
        rest += x.order(s, i % 3) + x.told(i % 16) + x.ruled(rule, s) + x.row(s, 0, 0, 0) + x.cost(s, 0, 1);
        rest += x.worth(rule, s, 0) + x.act(rule, s, 0, 1) + x.better(rule, s) + x.round() + x.best(0) + x.regret(s, 0);
        rest += x.closed(rule, 0) + x.share(rule, s, 0) + x.daily(rule, 0) + x.limits(rule, 0) + x.within(6, s, 0);
        rest += x.first(6, s) + x.looks() + x.see(s, 0) + x.fits(2, 0) + x.day(30) + x.pay(i) + x.times(1);
        rest += x.total(i, i) + x.record(0, 0) + x.likely(0) + x.would(4, i, 99, 1) + x.plan(i % 3, s) + x.ends(1);
        rest += x.judge(rule, s, 0) + x.image() + x.undo() + x.taken(s) + x.count(s) + x.tape(s, i % 5, 60);
        rest += x.item(s, 0, i) + x.peek(s, 0) + x.shift(s, 0, s, 1, 2) + x.store(i % 3, 1 + i % 3);
    }

    public static void main(String[] args) {
        Checks checks = new Checks("RoomTest");
        com.sun.management.ThreadMXBean bean =
                (com.sun.management.ThreadMXBean) ManagementFactory.getThreadMXBean();
        long thread = Thread.currentThread().getId();
        ReorderMind x = new ReorderMind();
        callAll(x, 0);
        bean.getThreadAllocatedBytes(thread);

        long ahead = bean.getThreadAllocatedBytes(thread);
        for (int i = 0; i < CALLS; i++) callAll(x, i);
        long made = bean.getThreadAllocatedBytes(thread) - ahead;
        checks.that(made <= MOST_BYTES, "the calls made " + made + " bytes, " + rest);

        ahead = bean.getThreadAllocatedBytes(thread);
        rest += new ReorderMind().told(0);
        made = bean.getThreadAllocatedBytes(thread) - ahead;
        checks.that(made > 0 && made <= MOST_MINDS, "a new object takes " + made + " bytes");
        System.out.println("  a new object takes " + made + " bytes");
        checks.end();
    }
}
