/** Promise 11. */
public final class EntryTest {
    private static final Checks checks = new Checks("EntryTest");

    public static void main(String[] args) {
        kinds();
        latestHundred();
        wrongCalls();
        checks.end();
    }

    private static void due(RingGroup group, int node, int k, long... want) {
        for (int what = 0; what < 6; what++) {
            checks.due("entry(" + node + ", " + k + ", " + what + ")", group.entry(node, k, what), want[what]);
        }
    }

    private static void kinds() {
        RingGroup group = Scene.ring(3, 1);
        group.send(1, 9, -99, false);
        Scene.passes(group, 0, 1);
        group.crash(2);
        group.gather(0);
        due(group, 0, 0, RingGroup.RING, 7, 0, 0, 0, 1);
        due(group, 0, 1, RingGroup.MESSAGE, 1, 1, 9, -99, 1);
        due(group, 0, 2, RingGroup.TRANSITION, 3, 0, 0, 0, 1);
        due(group, 0, 3, RingGroup.RING, 3, 0, 0, 0, 2);
    }

    private static void latestHundred() {
        RingGroup group = new RingGroup(2, 8);
        group.part(1, 1);
        group.gather(0);
        for (int i = 0; i < 99; i++) {
            group.send(0, i % 16, i, false);
            group.pass(0, 0);
        }
        due(group, 0, 0, 3, 1, 0, 0, 0, 1);
        due(group, 0, 99, 1, 99, 0, 98 % 16, 98, 1);
        checks.outOfBounds("100 entries", () -> group.entry(0, 100, 0));
        group.send(0, 3, 300, true);
        group.pass(0, 0);
        due(group, 0, 0, 1, 1, 0, 0, 0, 1);
        due(group, 0, 99, 1, 100, 0, 3, 300, 1);
        checks.outOfBounds("still 100 entries", () -> group.entry(0, 100, 0));
        group.part(1, 0);
        group.gather(0);
        due(group, 0, 0, 1, 3, 0, 2, 2, 1);
        due(group, 0, 98, 2, 1, 0, 0, 0, 1);
        due(group, 0, 99, 3, 3, 0, 0, 0, 2);
        checks.due("ever", group.about(0, Scene.LOGGED), 103);
    }

    private static void wrongCalls() {
        RingGroup group = new RingGroup(3, 1);
        checks.outOfBounds("nothing logged", () -> group.entry(0, 0, 0));
        group.gather(0);
        checks.outOfBounds("node -1", () -> group.entry(-1, 0, 0));
        checks.outOfBounds("node 3", () -> group.entry(3, 0, 0));
        checks.outOfBounds("k -1", () -> group.entry(0, -1, 0));
        checks.outOfBounds("k 1", () -> group.entry(0, 1, 0));
        checks.outOfBounds("k max", () -> group.entry(0, Integer.MAX_VALUE, 0));
        checks.badArgument("what -1", () -> group.entry(0, 0, -1));
        checks.badArgument("what 6", () -> group.entry(0, 0, 6));
        checks.outOfBounds("k and what", () -> group.entry(0, 1, 6));
        checks.due("k 0", group.entry(0, 0, 5), 1);
    }
}
