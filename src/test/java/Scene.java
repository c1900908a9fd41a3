/** Short ways to bring an object to where a test begins, and to read it as a text. */
final class Scene {
    static final int UP = 0, GROUP = 1, NUMBER = 2, MEMBERS = 3, PENDING = 4, FULL = 5, DELIVERED = 6,
            SAFE_TO = 7, APPLIED = 8, VOTE = 9, VOTERS = 10, HIGHEST = 11, HOLDS = 12, LOGGED = 13;

    private Scene() {
    }

    /** A new object whose nodes are all of ring 1. */
    static RingGroup ring(int nodes, int window) {
        RingGroup group = new RingGroup(nodes, window);
        group.gather(0);
        return group;
    }

    /** Each of these nodes passes once, and nobody misses anything. */
    static void passes(RingGroup group, int... nodes) {
        for (int node : nodes) {
            group.pass(node, 0);
        }
    }

    static void sends(RingGroup group, int node, int key, long value, boolean safe, int times) {
        for (int i = 0; i < times; i++) {
            group.send(node, key, value + i, safe);
        }
    }

    /** The node goes to a group and gathers there; answers what gather does. */
    static int goes(RingGroup group, int node, int to) {
        group.part(node, to);
        return group.gather(node);
    }

    /** All of these nodes crash, and then restart: what they know of rings but not KEEP is gone. */
    static void reborn(RingGroup group, int... nodes) {
        for (int node : nodes) {
            group.crash(node);
        }
        for (int node : nodes) {
            group.restart(node);
        }
    }

    /** In a ring of nodes 0 and 1, 0 holding: so many places more are given, at most 8 a pass. */
    static void fill(RingGroup group, int places, boolean safe) {
        for (int left = places; left > 0; left -= 8) {
            sends(group, 0, left % 16, left, safe, Math.min(8, left));
            passes(group, 0, 1);
        }
    }

    /** The log as a text: m place.sender.key.value@ring, t members@ring, r members@ring. */
    static String log(RingGroup group, int node) {
        StringBuilder text = new StringBuilder();
        int size = Math.min(100, group.about(node, LOGGED));
        for (int k = 0; k < size; k++) {
            long kind = group.entry(node, k, 0);
            text.append(k == 0 ? "" : " ").append(kind == 1 ? "m" : kind == 2 ? "t" : "r");
            text.append(group.entry(node, k, 1));
            for (int what = 2; what <= 4 && kind == 1; what++) {
                text.append('.').append(group.entry(node, k, what));
            }
            text.append('@').append(group.entry(node, k, 5));
        }
        return text.toString();
    }

    /** All that can be asked of a node but its log, as a text. */
    static String state(RingGroup group, int node) {
        StringBuilder text = new StringBuilder();
        for (int what = 0; what <= 13; what++) {
            text.append(group.about(node, what)).append(' ');
        }
        for (int key = 0; key < 16; key++) {
            text.append(group.table(node, key)).append(' ');
        }
        return text.append(group.mark(node)).append(' ').append(group.primary(node)).toString();
    }

    /** All that can be asked of the first nodes of an object, logs too. */
    static String states(RingGroup group, int nodes) {
        StringBuilder text = new StringBuilder();
        for (int node = 0; node < nodes; node++) {
            text.append(state(group, node)).append(" | ").append(log(group, node)).append('\n');
        }
        return text.toString();
    }
}
