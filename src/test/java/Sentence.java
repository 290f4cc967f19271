import java.util.ArrayList;
import java.util.List;
import java.util.Set;
import java.util.TreeSet;

/** Words of the document, of a promise, and a run of calls on a new object that tests them. */
record Sentence(int promise, String words, String where, List<Step> steps) {
    static Sentence of(String heading, String where) {
        int blank = heading.indexOf(' ');
        return new Sentence(Integer.parseInt(heading.substring(0, blank)), heading.substring(blank + 1).trim(), where,
                new ArrayList<>());
    }

    /** Goes through the run; the answers that came, as they were told. */
    Set<String> run(Checks checks) {
        Set<String> answers = new TreeSet<>();
        List<Step> changes = new ArrayList<>();
        ReorderMind x = new ReorderMind();
        String ahead = null;
        for (Step step : steps) {
            long got = step.call().on(x);
            String told = promise + ": '" + words + "': " + step.call().told() + " (" + step.where() + ")";
            String due = step.due() == null ? "no refusal" : step.dueTold();
            checks.that(step.isRight(got), told + " answered " + got + ", due is " + due);
            answers.add(step.dueTold());
            if (step.isFaultRead()) {
                List<Step> unfed = withoutFeeds(changes);
                checks.that(unlike(changes, step, Everything.of(gone(unfed))) == null, told + " told something");
            }
            if (!step.leavesAll()) {
                changes.add(step);
                ahead = null;
                continue;
            }
            if (ahead == null) ahead = Everything.of(gone(changes));
            String other = unlike(changes, step, ahead);
            checks.that(other == null, told + " changed something: " + other);
        }
        return answers;
    }

    private static ReorderMind gone(List<Step> steps) {
        ReorderMind x = new ReorderMind();
        for (Step step : steps) step.call().on(x);
        return x;
    }

    /** The runs up to a read() that finds a FAULT, as if THE TEXT had never been fed. */
    private static List<Step> withoutFeeds(List<Step> steps) {
        List<Step> rest = new ArrayList<>(steps);
        for (int i = rest.size() - 1; i >= 0 && !rest.get(i).call().name().equals("read"); i--) {
            if (rest.get(i).call().name().equals("feed")) rest.remove(i);
        }
        return rest;
    }

    /** Null if all is as it was ahead of the step. */
    private static String unlike(List<Step> changes, Step step, String ahead) {
        ReorderMind x = gone(changes);
        step.call().on(x);
        String[] is = Everything.of(x).split("\n");
        String[] was = ahead.split("\n");
        for (int i = 0; i < is.length && i < was.length; i++) {
            if (!is[i].equals(was[i])) return was[i] + " became " + is[i];
        }
        return is.length == was.length ? null : "more or less than there was";
    }
}
