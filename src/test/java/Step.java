import java.util.ArrayList;
import java.util.List;
import java.util.Map;

/** A call, and which answer is due: null if any that is no refusal will do. */
record Step(Call call, Long due, String dueTold, String where) {
    private static final Map<String, Long> NAMES = Map.ofEntries(Map.entry("NONE", -1L), Map.entry("BAD", -2L),
            Map.entry("STATE", -3L), Map.entry("FULL", -4L), Map.entry("HUGE", -6L), Map.entry("NOTHING", -11L),
            Map.entry("CAST", -12L), Map.entry("PLACE", -13L), Map.entry("SIZE", -14L),
            Map.entry("NO", Long.MIN_VALUE), Map.entry("most", (long) Integer.MAX_VALUE),
            Map.entry("least", (long) Integer.MIN_VALUE));
    private static final int MOST_FAULT = -10;

    /** "w1111;g5" in quotes is fed; "30 x day(1)" comes so many times; an answer 1/2 is asked for by its two parts. */
    static List<Step> of(String line, String where) {
        List<Step> steps = new ArrayList<>();
        if (line.startsWith("\"")) {
            for (char sign : line.substring(1, line.lastIndexOf('"')).toCharArray()) {
                steps.add(new Step(Call.of("feed(" + (int) sign + ")"), null, "", where));
            }
            return steps;
        }
        int by = line.indexOf(" x ");
        int times = by < 0 ? 1 : Integer.parseInt(line.substring(0, by).trim());
        String rest = by < 0 ? line : line.substring(by + 3).trim();
        int close = rest.indexOf(')') + 1;
        String call = rest.substring(0, close);
        String due = rest.substring(close).replaceFirst("#.*", "").trim();
        for (int i = 0; i < times; i++) add(steps, call, due, where);
        return steps;
    }

    private static void add(List<Step> steps, String call, String due, String where) {
        int line = due.indexOf('/');
        if (line < 0) {
            steps.add(new Step(Call.of(call), due.isEmpty() ? null : dueOf(due), due, where));
            return;
        }
        for (int part = 0; part <= 1; part++) {
            String one = part == 0 ? due.substring(0, line) : due.substring(line + 1);
            steps.add(new Step(Call.withPart(call, part), dueOf(one), one, where));
        }
    }

    private static Long dueOf(String due) {
        Long named = NAMES.get(due);
        return named != null ? named : Long.valueOf(due);
    }

    boolean isRefused() {
        return due != null && NAMES.containsKey(dueTold) && due < 0 && !dueTold.equals("least");
    }

    boolean isFaultRead() {
        return call.name().equals("read") && due != null && due <= MOST_FAULT;
    }

    /** Whether nothing may be otherwise behind it. */
    boolean leavesAll() {
        return call.isAsked() || isRefused();
    }

    boolean isRight(long got) {
        if (due != null) return got == due;
        return got >= 0 || call.name().equals("tell");
    }
}
