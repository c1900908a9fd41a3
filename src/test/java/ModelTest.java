import java.util.function.LongSupplier;

/** Long runs of calls on RingGroup and on the Model: every answer, and every node, must be the same in both. */
public final class ModelTest implements Draws.Calls {
    private static final int RUNS = 1500;
    private static final int CALLS = 512;
    private static final Checks checks = new Checks("ModelTest");

    private final Draws draws;
    private final RingGroup group;
    private final Model model;
    private final int nodes;
    private final boolean all;
    private String wrong = "";

    private ModelTest(int run) {
        draws = new Draws(run);
        int asked = draws.draw(10);
        int window = draws.draw(10);
        group = new RingGroup(asked, window);
        model = new Model(asked, window);
        nodes = model.nodes.size();
        all = run % 2 == 0;
    }

    public static void main(String[] args) {
        for (int run = 0; run < RUNS; run++) {
            String wrong = new ModelTest(run).play();
            checks.due("run " + run, wrong, "");
            if (!wrong.isEmpty()) {
                break;
            }
        }
        checks.end();
    }

    private String play() {
        for (int call = 0; call < CALLS; call++) {
            if (call == 0 && all) {
                gather(0);
            } else {
                draws.call(this, nodes);
            }
            if (wrong.isEmpty() && (call % 16 == 15 || call < 40)) {
                wrong = differing();
            }
            if (!wrong.isEmpty()) {
                return "call " + call + ": " + wrong;
            }
        }
        return differing();
    }

    @Override
    public void send(int node, int key, long value, boolean safe) {
        wrong = same("send(" + node + ", " + key + ", " + value + ", " + safe + ")",
                () -> group.send(node, key, value, safe), () -> model.send(node, key, value, safe));
    }

    @Override
    public void pass(int node, int misses) {
        wrong = same("pass(" + node + ", " + misses + ")",
                () -> group.pass(node, misses), () -> model.pass(node, misses));
    }

    @Override
    public void gather(int node) {
        wrong = same("gather(" + node + ")", () -> group.gather(node), () -> model.gather(node));
    }

    @Override
    public void part(int node, int to) {
        wrong = same("part(" + node + ", " + to + ")", () -> {
            group.part(node, to);
            return 0;
        }, () -> {
            model.part(node, to);
            return 0;
        });
    }

    @Override
    public void crash(int node) {
        wrong = same("crash(" + node + ")", () -> {
            group.crash(node);
            return 0;
        }, () -> {
            model.crash(node);
            return 0;
        });
    }

    @Override
    public void restart(int node) {
        wrong = same("restart(" + node + ")", () -> {
            group.restart(node);
            return 0;
        }, () -> {
            model.restart(node);
            return 0;
        });
    }

    @Override
    public boolean holds(int node) {
        return model.about(node, Scene.HOLDS) == 1;
    }

    private String differing() {
        for (int node = 0; node < nodes; node++) {
            int n = node;
            for (int what = 0; what < 14; what++) {
                if (group.about(n, what) != model.about(n, what)) {
                    int w = what;
                    return same("about(" + n + ", " + w + ")", () -> group.about(n, w), () -> model.about(n, w));
                }
            }
            for (int key = 0; key < 16; key++) {
                if (group.table(n, key) != model.table(n, key)) {
                    int k = key;
                    return same("table(" + n + ", " + k + ")", () -> group.table(n, k), () -> model.table(n, k));
                }
            }
            if (group.mark(n) != model.mark(n) || group.primary(n) != model.primary(n)) {
                return "mark or primary of " + n;
            }
            int size = Math.min(100, model.about(n, 13));
            for (int k = 0; k < size; k++) {
                for (int what = 0; what < 6; what++) {
                    if (group.entry(n, k, what) != model.entry(n, k, what)) {
                        return "entry(" + n + ", " + k + ", " + what + ")";
                    }
                }
            }
        }
        return "";
    }

    private static String same(String call, LongSupplier got, LongSupplier want) {
        String a = answer(got);
        String b = answer(want);
        return a.equals(b) ? "" : call + " answered " + a + ", due is " + b;
    }

    private static String answer(LongSupplier call) {
        try {
            return Long.toString(call.getAsLong());
        } catch (RuntimeException e) {
            return e.getClass().getSimpleName();
        }
    }
}
