/** Promise 5. */
public final class PartTest {
    private static final Checks checks = new Checks("PartTest");

    public static void main(String[] args) {
        groups();
        staysOfItsRing();
        notUp();
        wrongCalls();
        checks.end();
    }

    private static void groups() {
        RingGroup group = new RingGroup(3, 1);
        for (int to = 0; to <= 7; to++) {
            group.part(1, to);
            checks.due("GROUP", group.about(1, Scene.GROUP), to);
        }
        checks.due("another's GROUP", group.about(0, Scene.GROUP), 0);
        group.part(2, 7);
        group.gather(1);
        checks.due("those of a group gather", group.about(2, Scene.MEMBERS), 6);
        checks.due("no other", group.about(0, Scene.MEMBERS), 0);
    }

    private static void staysOfItsRing() {
        RingGroup group = Scene.ring(2, 1);
        group.part(0, 3);
        checks.due("MEMBERS", group.about(0, Scene.MEMBERS), 3);
        checks.due("HOLDS", group.about(0, Scene.HOLDS), 1);
        checks.due("LOG", group.about(0, Scene.LOGGED), 1);
        group.part(1, 3);
        checks.due("moved both", group.gather(0), 0);
        group.send(0, 0, 0, false);
        group.pass(0, 0);
        checks.due("the ring goes on", group.about(1, Scene.FULL), 1);
    }

    private static void notUp() {
        RingGroup group = Scene.ring(2, 1);
        group.crash(1);
        group.part(1, 5);
        checks.due("GROUP", group.about(1, Scene.GROUP), 5);
        group.restart(1);
        checks.due("GROUP", group.about(1, Scene.GROUP), 5);
    }

    private static void wrongCalls() {
        RingGroup group = new RingGroup(3, 1);
        group.part(0, 2);
        checks.outOfBounds("node -1", () -> group.part(-1, 0));
        checks.outOfBounds("node 3", () -> group.part(3, 0));
        checks.outOfBounds("node and group", () -> group.part(3, 8));
        checks.badArgument("group 8", () -> group.part(0, 8));
        checks.badArgument("group -1", () -> group.part(0, -1));
        checks.badArgument("group min", () -> group.part(0, Integer.MIN_VALUE));
        checks.due("unchanged", group.about(0, Scene.GROUP), 2);
    }
}
