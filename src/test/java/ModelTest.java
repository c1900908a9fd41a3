import java.util.function.LongSupplier;

/**
 * Long runs of calls on RingGroup and on the Model, drawn from a row of numbers that is the same each
 * time: every answer, and behind every call every node, must be the same in both.
 */
public final class ModelTest {
    private static final int RUNS = 1500;
    private static final int CALLS = 512;
    private static final Checks checks = new Checks("ModelTest");

    private long drawn;
    private final RingGroup group;
    private final Model model;
    private final int nodes;
    private final int unrest;
    private final int loss;
    private final boolean all;

    private ModelTest(int run) {
        drawn = run * 0x9E3779B97F4A7C15L + 1;
        int asked = draw(10);
        int window = draw(10);
        group = new RingGroup(asked, window);
        model = new Model(asked, window);
        nodes = model.nodes.size();
        // Some runs are calm, so that rings grow old; in some nearly every call changes who hears whom.
        unrest = new int[] {2, 6, 15, 40, 70}[run % 5];
        loss = new int[] {0, 20, 60}[run % 3];
        all = run % 2 == 0;
    }

    public static void main(String[] args) {
        for (int run = 0; run < RUNS; run++) {
            String wrong = new ModelTest(run).play();
            checks.due("run " + run, wrong, "");
            if (!wrong.isEmpty()) {
                break;
            }
        }
        checks.end();
    }

    private int draw(int bound) {
        drawn = drawn * 6364136223846793005L + 1442695040888963407L;
        return (int) ((drawn >>> 33) % bound);
    }

    private String play() {
        for (int call = 0; call < CALLS; call++) {
            String wrong = call == 0 && all ? gather(0) : step();
            if (wrong.isEmpty() && (call % 16 == 15 || call < 40)) {
                wrong = differing();
            }
            if (!wrong.isEmpty()) {
                return "call " + call + ": " + wrong;
            }
        }
        return differing();
    }

    private String step() {
        int node = draw(nodes);
        int kind = draw(100);
        if (draw(40) == 0) {
            node = draw(nodes + 2) - 1;
        }
        if (kind < unrest) {
            return unrest(node, draw(10));
        }
        if (draw(100) < 45) {
            int key = draw(50) == 0 ? draw(20) - 2 : draw(16);
            return send(node, key, draw(1 << 30) * (long) draw(1 << 30) - draw(1000), draw(3) != 0);
        }
        int holder = holderBehind(draw(nodes));
        int misses = draw(100) < loss ? draw(256) : 0;
        return draw(30) == 0 || holder < 0 ? gatherOrPass(node, misses) : pass(holder, misses);
    }

    private String gatherOrPass(int node, int misses) {
        return draw(3) == 0 ? pass(node, misses) : gather(node);
    }

    private int holderBehind(int node) {
        for (int step = 0; step < nodes; step++) {
            int asked = (node + step) % nodes;
            if (model.about(asked, 12) == 1) {
                return asked;
            }
        }
        return -1;
    }

    private String unrest(int node, int kind) {
        if (kind < 3) {
            return part(node, draw(20) == 0 ? draw(12) - 2 : draw(2));
        }
        if (kind < 4) {
            return crash(node);
        }
        return kind < 6 ? restart(node) : gather(node);
    }

    private String send(int node, int key, long value, boolean safe) {
        return same("send(" + node + ", " + key + ", " + value + ", " + safe + ")",
                () -> group.send(node, key, value, safe), () -> model.send(node, key, value, safe));
    }

    private String pass(int node, int misses) {
        return same("pass(" + node + ", " + misses + ")",
                () -> group.pass(node, misses), () -> model.pass(node, misses));
    }

    private String gather(int node) {
        return same("gather(" + node + ")", () -> group.gather(node), () -> model.gather(node));
    }

    private String part(int node, int to) {
        return same("part(" + node + ", " + to + ")", () -> {
            group.part(node, to);
            return 0;
        }, () -> {
            model.part(node, to);
            return 0;
        });
    }

    private String crash(int node) {
        return same("crash(" + node + ")", () -> {
            group.crash(node);
            return 0;
        }, () -> {
            model.crash(node);
            return 0;
        });
    }

    private String restart(int node) {
        return same("restart(" + node + ")", () -> {
            group.restart(node);
            return 0;
        }, () -> {
            model.restart(node);
            return 0;
        });
    }

    private String differing() {
        for (int node = 0; node < nodes; node++) {
            int n = node;
            for (int what = 0; what < 14; what++) {
                if (group.about(n, what) != model.about(n, what)) {
                    int w = what;
                    return same("about(" + n + ", " + w + ")", () -> group.about(n, w), () -> model.about(n, w));
                }
            }
            for (int key = 0; key < 16; key++) {
                if (group.table(n, key) != model.table(n, key)) {
                    int k = key;
                    return same("table(" + n + ", " + k + ")", () -> group.table(n, k), () -> model.table(n, k));
                }
            }
            if (group.mark(n) != model.mark(n) || group.primary(n) != model.primary(n)) {
                return "mark or primary of " + n;
            }
            int size = Math.min(100, model.about(n, 13));
            for (int k = 0; k < size; k++) {
                for (int what = 0; what < 6; what++) {
                    if (group.entry(n, k, what) != model.entry(n, k, what)) {
                        return "entry(" + n + ", " + k + ", " + what + ")";
                    }
                }
            }
        }
        return "";
    }

    private static String same(String call, LongSupplier got, LongSupplier want) {
        String a = answer(got);
        String b = answer(want);
        return a.equals(b) ? "" : call + " answered " + a + ", due is " + b;
    }

    private static String answer(LongSupplier call) {
        try {
            return Long.toString(call.getAsLong());
        } catch (RuntimeException e) {
            return e.getClass().getSimpleName();
        }
    }
}
