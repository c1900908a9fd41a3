import java.util.HashMap;
import java.util.Map;

/** Follows the tables of all nodes: there is one history of updates, and one row of primary rings. */
final class Tables {
    static final String BY_ALL = "and a table that is only changed by what all of the last primary ring have,";
    static final String BY_MOST = "or where the greater part of it is (or half of it with its least one).";

    private final Findings findings;
    /** By APPLIED: no two nodes ever come to different tables by as many updates. */
    private final Map<Integer, String> history = new HashMap<>();
    private Standing.RingName last;
    /** APPLIED as the last primary ring began, and how many updates got places in it since. */
    private int atBeginning;
    private int updates;

    Tables(Findings findings, int nodes) {
        this.findings = findings;
        last = new Standing.RingName(0, (1 << nodes) - 1);
    }

    /** An update got a place in this ring. */
    void update(Standing.RingName ring) {
        updates += ring.equals(last) ? 1 : 0;
    }

    /** Behind a call by which each of these nodes told so many SAFE messages as such that all have. */
    void changedByWhatAllHave(Standing[] before, Standing[] now, int[] toldSafe) {
        for (int node = 0; node < now.length; node++) {
            int due = before[node].applied() + (before[node].primary() ? toldSafe[node] : 0);
            findings.due(BY_ALL, "APPLIED of " + node, now[node].applied() == due);
            findings.due(BY_ALL, "another table at " + node,
                    now[node].applied() != before[node].applied() || now[node].table().equals(before[node].table()));
        }
        oneHistory(BY_ALL, now);
    }

    /** Behind a call by which these nodes gathered. */
    void gathered(int set, Standing[] before, Standing[] now, int[] toldSafe) {
        int least = Integer.numberOfTrailingZeros(set);
        boolean primary = isGreaterPart(set);
        for (int node = 0; node < now.length; node++) {
            if ((set >> node & 1) != 0) {
                findings.due(BY_MOST, "primary at " + node, now[node].primary() == primary);
            }
        }
        if (!primary) {
            changedByWhatAllHave(before, now, toldSafe);
            return;
        }
        for (int node = 0; node < now.length; node++) {
            boolean inside = (set >> node & 1) != 0;
            String due = inside ? now[least].table() : before[node].table();
            findings.due(BY_MOST, "table of " + node, now[node].table().equals(due));
            findings.due(BY_MOST, "an update of " + node + " is gone", now[least].applied() >= now[node].applied());
        }
        findings.due(BY_MOST, "an update twice", now[least].applied() - atBeginning <= updates);
        oneHistory(BY_MOST, now);
        last = now[least].ring();
        atBeginning = now[least].applied();
        updates = 0;
    }

    private boolean isGreaterPart(int set) {
        int twice = 2 * Integer.bitCount(set & last.members());
        int all = Integer.bitCount(last.members());
        return twice > all || twice == all && (set & Integer.lowestOneBit(last.members())) != 0;
    }

    private void oneHistory(String clause, Standing[] now) {
        for (Standing node : now) {
            String table = history.putIfAbsent(node.applied(), node.table());
            findings.due(clause, "two histories", table == null || table.equals(node.table()));
        }
    }
}
