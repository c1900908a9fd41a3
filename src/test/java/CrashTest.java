/** Promise 6. */
public final class CrashTest {
    private static final Checks checks = new Checks("CrashTest");

    public static void main(String[] args) {
        whatGoes();
        whatStays();
        token();
        wrongCalls();
        checks.end();
    }

    private static void whatGoes() {
        RingGroup group = Scene.ring(2, 1);
        Scene.sends(group, 1, 0, 0, false, 5);
        Scene.passes(group, 0, 1, 0);
        group.crash(1);
        int[] gone = {Scene.UP, Scene.NUMBER, Scene.MEMBERS, Scene.PENDING, Scene.FULL, Scene.DELIVERED,
            Scene.SAFE_TO, Scene.HOLDS};
        for (int what : gone) {
            checks.due("about " + what, group.about(1, what), 0);
        }
        checks.due("primary", group.primary(1), false);
        group.restart(1);
        checks.due("pending ones do not come back", group.send(1, 0, 0, false), 1);
    }

    private static void whatStays() {
        RingGroup group = Scene.ring(2, 1);
        group.part(0, 2);
        group.part(1, 2);
        group.send(0, 6, 60, true);
        Scene.passes(group, 0, 1, 0, 1);
        String log = Scene.log(group, 1);
        group.crash(1);
        checks.due("GROUP", group.about(1, Scene.GROUP), 2);
        checks.due("APPLIED", group.about(1, Scene.APPLIED), 1);
        checks.due("VOTE", group.about(1, Scene.VOTE), 1);
        checks.due("VOTERS", group.about(1, Scene.VOTERS), 3);
        checks.due("HIGHEST", group.about(1, Scene.HIGHEST), 1);
        checks.due("LOG", Scene.log(group, 1), log);
        checks.due("TABLE", group.table(1, 6), 60);
        checks.due("MARK", group.mark(1), 6 * 17 + 60);
        checks.due("the other is of the ring still", group.about(0, Scene.MEMBERS), 3);
    }

    private static void token() {
        RingGroup holder = Scene.ring(3, 1);
        holder.crash(0);
        for (int node = 0; node < 3; node++) {
            checks.due("lost", holder.about(node, Scene.HOLDS), 0);
        }
        holder.restart(0);
        checks.due("does not come back", holder.about(0, Scene.HOLDS), 0);
        RingGroup other = Scene.ring(3, 1);
        other.crash(2);
        checks.due("another's stays", other.about(0, Scene.HOLDS), 1);
    }

    private static void wrongCalls() {
        RingGroup group = Scene.ring(3, 1);
        checks.outOfBounds("node -1", () -> group.crash(-1));
        checks.outOfBounds("node 3", () -> group.crash(3));
        group.crash(1);
        String before = Scene.states(group, 3);
        checks.badState("not up", () -> group.crash(1));
        checks.due("unchanged", Scene.states(group, 3), before);
    }
}
