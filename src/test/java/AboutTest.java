/** Promise 8. */
public final class AboutTest {
    private static final Checks checks = new Checks("AboutTest");

    public static void main(String[] args) {
        everything();
        withoutRing();
        fullAndDelivered();
        loggedEver();
        wrongCalls();
        checks.end();
    }

    private static void due(RingGroup group, int node, int... want) {
        for (int what = 0; what < want.length; what++) {
            checks.due("about(" + node + ", " + what + ")", group.about(node, what), want[what]);
        }
    }

    private static void everything() {
        RingGroup group = Scene.ring(3, 2);
        group.send(0, 1, 1, true);
        group.send(0, 2, 2, false);
        Scene.sends(group, 0, 3, 3, false, 2);
        group.part(2, 5);
        group.gather(0);
        group.pass(0, 0);
        due(group, 0, 1, 0, 2, 3, 2, 2, 0, 0, 0, 2, 3, 2, 0, 3);
        group.pass(1, 0);
        due(group, 1, 1, 0, 2, 3, 0, 2, 2, 2, 1, 2, 3, 2, 0, 5);
        due(group, 0, 1, 0, 2, 3, 2, 2, 0, 0, 0, 2, 3, 2, 1, 3);
        due(group, 2, 1, 5, 1, 7, 0, 0, 0, 0, 0, 1, 7, 1, 0, 1);
    }

    private static void withoutRing() {
        RingGroup group = Scene.ring(2, 2);
        group.send(0, 1, 1, true);
        Scene.passes(group, 0, 1, 0);
        group.crash(0);
        due(group, 0, 0, 0, 0, 0, 0, 0, 0, 0, 1, 1, 3, 1, 0, 2);
    }

    private static void fullAndDelivered() {
        RingGroup group = Scene.ring(3, 1);
        group.send(0, 0, 0, false);
        group.send(1, 0, 0, false);
        group.pass(0, 0b100);
        group.pass(1, 0);
        checks.due("FULL ends before the gap", group.about(2, Scene.FULL), 0);
        checks.due("1", group.about(1, Scene.FULL), 2);
        checks.due("0 has all, and delivered one", group.about(0, Scene.FULL), 2);
        checks.due("DELIVERED", group.about(0, Scene.DELIVERED), 1);
    }

    private static void loggedEver() {
        RingGroup group = new RingGroup(2, 1);
        for (int i = 0; i < 60; i++) {
            group.gather(0);
            group.crash(1);
            group.gather(0);
            group.restart(1);
        }
        checks.due("more than the log keeps", group.about(0, Scene.LOGGED), 239);
        checks.due("the other", group.about(1, Scene.LOGGED), 60);
    }

    private static void wrongCalls() {
        RingGroup group = new RingGroup(3, 1);
        checks.outOfBounds("node -1", () -> group.about(-1, 0));
        checks.outOfBounds("node 3", () -> group.about(3, 0));
        checks.outOfBounds("node and what", () -> group.about(3, 14));
        checks.badArgument("what 14", () -> group.about(0, 14));
        checks.badArgument("what -1", () -> group.about(0, -1));
        checks.badArgument("what max", () -> group.about(0, Integer.MAX_VALUE));
    }
}
