import java.util.HashMap;
import java.util.Map;

/** What many runs showed of each clause: how often it was looked at, and where it first did not hold. */
final class Findings {
    private final Map<String, Integer> seen = new HashMap<>();
    private final Map<String, String> broken = new HashMap<>();
    private String where = "";

    /** The call that is looked at from now on. */
    void at(String call) {
        where = call;
    }

    void due(String clause, String what, boolean holds) {
        seen.merge(clause, 1, Integer::sum);
        if (!holds) {
            broken.putIfAbsent(clause, where + ": " + what);
        }
    }

    int seen(String clause) {
        return seen.getOrDefault(clause, 0);
    }

    /** Empty if the clause held wherever it was looked at. */
    String broken(String clause) {
        return broken.getOrDefault(clause, "");
    }
}
