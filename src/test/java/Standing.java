import java.util.Arrays;

/** How a node stands between two calls, as far as other nodes' calls may change it. */
record Standing(boolean up, int group, RingName ring, boolean holds, int applied, boolean primary, String table) {
    /** Rings may share a NUMBER, but then not their MEMBERS. */
    record RingName(int number, int members) {
        boolean isNone() {
            return number == 0;
        }

        boolean has(int node) {
            return (members >> node & 1) != 0;
        }
    }

    static Standing of(RingGroup group, int node) {
        long[] values = new long[17];
        for (int key = 0; key < 16; key++) {
            values[key] = group.table(node, key);
        }
        values[16] = group.mark(node);
        RingName ring = new RingName(group.about(node, Scene.NUMBER), group.about(node, Scene.MEMBERS));
        return new Standing(group.about(node, Scene.UP) == 1, group.about(node, Scene.GROUP), ring,
                group.about(node, Scene.HOLDS) == 1, group.about(node, Scene.APPLIED), group.primary(node),
                Arrays.toString(values));
    }

    static Standing[] all(RingGroup group, int nodes) {
        Standing[] all = new Standing[nodes];
        for (int node = 0; node < nodes; node++) {
            all[node] = of(group, node);
        }
        return all;
    }
}
