import java.util.HashMap;
import java.util.Map;
import java.util.Set;
import java.util.TreeMap;
import java.util.TreeSet;

/** Which methods call which, how deep that goes, and which of them are in a recursion. */
final class CallGraph {
    private static final int DEEPEST = 8;

    private final Map<String, Set<String>> called = new TreeMap<>();
    private final Map<String, String> parameters = new HashMap<>();
    private final Map<String, Set<String>> reached = new HashMap<>();

    void knows(String method, String itsParameters) {
        called.computeIfAbsent(method, m -> new TreeSet<>());
        parameters.put(method, itsParameters);
    }

    void calls(String method, String other) {
        called.computeIfAbsent(method, m -> new TreeSet<>()).add(other);
    }

    void depths(Due due) {
        for (String method : called.keySet()) {
            int depth = depth(method);
            due.is("11: calls from " + method + " go " + depth + " deep", depth <= DEEPEST ? 1 : 0, 1);
            if (from(method).contains(method)) {
                boolean carried = parameters.get(method).matches("int parens,int nots");
                due.is("8: " + method + " carries its depth", carried ? 1 : 0, 1);
            }
        }
    }

    /** All that a method calls, itself or by others. */
    private Set<String> from(String method) {
        Set<String> known = reached.get(method);
        if (known == null) {
            known = new TreeSet<>();
            reached.put(method, known);
            gather(method, known);
        }
        return known;
    }

    private void gather(String method, Set<String> all) {
        for (String next : called.getOrDefault(method, Set.of())) {
            if (all.add(next)) {
                gather(next, all);
            }
        }
    }

    /** How many calls stand open at most, those of one recursion counted once. */
    private int depth(String method) {
        Set<String> together = new TreeSet<>(Set.of(method));
        for (String other : from(method)) {
            if (from(other).contains(method)) {
                together.add(other);
            }
        }
        int deepest = 0;
        for (String one : together) {
            for (String next : called.getOrDefault(one, Set.of())) {
                deepest = together.contains(next) ? deepest : Math.max(deepest, depth(next));
            }
        }
        return deepest + 1;
    }
}
