/** Promise 2. */
public final class SendTest {
    private static final Checks checks = new Checks("SendTest");

    public static void main(String[] args) {
        counts();
        sentInTurn();
        wrongCalls();
        placesFreed();
        checks.end();
    }

    private static void counts() {
        RingGroup group = new RingGroup(3, 2);
        for (int i = 1; i <= 12; i++) {
            checks.due("send without a ring", group.send(1, i, i, i % 2 == 0), i);
            checks.due("pending", group.about(1, Scene.PENDING), i);
        }
        checks.due("other's pending", group.about(0, Scene.PENDING), 0);
        String before = Scene.states(group, 3);
        checks.badState("send 13", () -> group.send(1, 0, 0, false));
        checks.due("unchanged", Scene.states(group, 3), before);
        checks.due("another may send", group.send(2, 15, Long.MIN_VALUE, true), 1);
    }

    private static void sentInTurn() {
        RingGroup group = Scene.ring(2, 2);
        group.send(0, 1, 10, false);
        group.send(0, 2, 20, false);
        group.send(0, 3, 30, false);
        Scene.passes(group, 0, 1);
        checks.due("pending left", group.about(0, Scene.PENDING), 1);
        checks.due("next is second", group.send(0, 4, -40, false), 2);
        Scene.passes(group, 0, 1);
        checks.due("in turn", Scene.log(group, 1), "r3@1 m1.0.1.10@1 m2.0.2.20@1 m3.0.3.30@1 m4.0.4.-40@1");
    }

    private static void wrongCalls() {
        RingGroup group = new RingGroup(3, 2);
        checks.outOfBounds("node -1", () -> group.send(-1, 0, 0, false));
        checks.outOfBounds("node 3", () -> group.send(3, 0, 0, false));
        checks.outOfBounds("node max", () -> group.send(Integer.MAX_VALUE, 0, 0, false));
        checks.outOfBounds("key -1", () -> group.send(0, -1, 0, false));
        checks.outOfBounds("key 16", () -> group.send(0, 16, 0, false));
        checks.due("key 0", group.send(0, 0, 0, false), 1);
        checks.due("key 15", group.send(0, 15, 0, false), 2);
        group.crash(1);
        checks.badState("not up", () -> group.send(1, 0, 0, false));
        checks.outOfBounds("not up and no such key", () -> group.send(1, 16, 0, false));
        checks.due("nothing is pending", group.about(1, Scene.PENDING), 0);
    }

    private static void placesFreed() {
        RingGroup group = Scene.ring(2, 3);
        Scene.sends(group, 0, 0, 0, false, 12);
        group.pass(0, 0);
        checks.due("three went", group.send(0, 0, 0, false), 10);
    }
}
