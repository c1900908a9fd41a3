/** Draws a run of calls from a row of numbers that is the same each time; some runs are calm, some wild. */
final class Draws {
    /** Who is told the calls that were drawn. */
    interface Calls {
        void send(int node, int key, long value, boolean safe);

        void pass(int node, int misses);

        void gather(int node);

        void part(int node, int to);

        void crash(int node);

        void restart(int node);

        boolean holds(int node);
    }

    private final int unrest;
    private final int loss;
    private long drawn;

    Draws(int run) {
        drawn = run * 0x9E3779B97F4A7C15L + 1;
        // In calm runs rings grow old; in wild ones nearly every call changes who hears whom.
        unrest = new int[] {2, 6, 15, 40, 70}[run % 5];
        loss = new int[] {0, 20, 60}[run % 3];
    }

    int draw(int bound) {
        drawn = drawn * 6364136223846793005L + 1442695040888963407L;
        return (int) ((drawn >>> 33) % bound);
    }

    void call(Calls calls, int nodes) {
        int node = draw(nodes);
        int kind = draw(100);
        if (draw(40) == 0) {
            node = draw(nodes + 2) - 1;
        }
        if (kind < unrest) {
            unrest(calls, node, draw(10));
        } else if (draw(100) < 45) {
            int key = draw(50) == 0 ? draw(20) - 2 : draw(16);
            calls.send(node, key, draw(1 << 30) * (long) draw(1 << 30) - draw(1000), draw(3) != 0);
        } else {
            token(calls, node, nodes);
        }
    }

    private void unrest(Calls calls, int node, int kind) {
        if (kind < 3) {
            calls.part(node, draw(20) == 0 ? draw(12) - 2 : draw(2));
        } else if (kind < 4) {
            calls.crash(node);
        } else if (kind < 6) {
            calls.restart(node);
        } else {
            calls.gather(node);
        }
    }

    private void token(Calls calls, int node, int nodes) {
        int holder = holderBehind(calls, draw(nodes), nodes);
        int misses = draw(100) < loss ? draw(256) : 0;
        if (draw(30) != 0 && holder >= 0) {
            calls.pass(holder, misses);
        } else if (draw(3) == 0) {
            calls.pass(node, misses);
        } else {
            calls.gather(node);
        }
    }

    private static int holderBehind(Calls calls, int node, int nodes) {
        for (int step = 0; step < nodes; step++) {
            int asked = (node + step) % nodes;
            if (calls.holds(asked)) {
                return asked;
            }
        }
        return -1;
    }
}
