/** Promise 7. */
public final class RestartTest {
    private static final Checks checks = new Checks("RestartTest");

    public static void main(String[] args) {
        upAgain();
        wrongCalls();
        checks.end();
    }

    private static void upAgain() {
        RingGroup group = Scene.ring(3, 1);
        group.part(1, 4);
        group.crash(1);
        group.restart(1);
        checks.due("UP", group.about(1, Scene.UP), 1);
        checks.due("in its GROUP", group.about(1, Scene.GROUP), 4);
        checks.due("without a ring", group.about(1, Scene.NUMBER), 0);
        checks.due("it sends", group.send(1, 0, 0, false), 1);
        checks.due("it gathers", group.gather(1), 2);
        checks.due("alone", group.about(1, Scene.MEMBERS), 2);
        group.crash(1);
        group.restart(1);
        checks.due("again", group.gather(1), 3);
    }

    private static void wrongCalls() {
        RingGroup group = Scene.ring(3, 1);
        checks.outOfBounds("node -1", () -> group.restart(-1));
        checks.outOfBounds("node 3", () -> group.restart(3));
        String before = Scene.states(group, 3);
        checks.badState("up", () -> group.restart(1));
        checks.due("unchanged", Scene.states(group, 3), before);
    }
}
