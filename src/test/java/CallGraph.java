import java.util.LinkedHashMap;
import java.util.LinkedHashSet;
import java.util.List;
import java.util.Map;
import java.util.Set;
import javax.lang.model.element.ExecutableElement;

/** Which method calls which: how deep the calls go, and whether one comes to itself again. */
final class CallGraph {
    private final Map<ExecutableElement, Set<ExecutableElement>> called = new LinkedHashMap<>();
    private final Map<ExecutableElement, Integer> depths = new LinkedHashMap<>();

    void add(ExecutableElement caller, ExecutableElement one) {
        if (caller != null) called.computeIfAbsent(caller, c -> new LinkedHashSet<>()).add(one);
    }

    /** Rules 8 and 11: there is no recursion here, so that every call counts. */
    void told(List<String> faults, int mostDeep) {
        for (ExecutableElement one : called.keySet()) {
            int depth = depth(one, new LinkedHashSet<>());
            if (depth < 0) faults.add("8: " + one + " comes to itself again");
            if (depth > mostDeep) faults.add("11: calls from " + one + " go " + depth + " deep");
        }
    }

    /** How many methods stand open at most, this one among them; -1 if there is a ring. */
    private int depth(ExecutableElement one, Set<ExecutableElement> open) {
        if (!open.add(one)) return -1;
        Integer known = depths.get(one);
        int deepest = known == null ? 0 : known - 1;
        if (known == null) {
            for (ExecutableElement next : called.getOrDefault(one, Set.of())) {
                int below = depth(next, open);
                deepest = below < 0 || deepest < 0 ? -1 : Math.max(deepest, below);
            }
            if (deepest >= 0) depths.put(one, deepest + 1);
        }
        open.remove(one);
        return deepest < 0 ? -1 : deepest + 1;
    }
}
