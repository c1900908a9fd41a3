/** Promise 1. */
public final class NewObjectTest {
    private static final Checks checks = new Checks("NewObjectTest");

    public static void main(String[] args) {
        constants();
        nodes();
        window();
        state();
        checks.end();
    }

    private static void constants() {
        checks.due("NONE", RingGroup.NONE, -1);
        checks.due("MESSAGE", RingGroup.MESSAGE, 1);
        checks.due("TRANSITION", RingGroup.TRANSITION, 2);
        checks.due("RING", RingGroup.RING, 3);
    }

    private static void nodes() {
        int[] asked = {Integer.MIN_VALUE, -1, 0, 1, 2, 3, 5, 7, 8, 9, 100, Integer.MAX_VALUE};
        int[] got = {2, 2, 2, 2, 2, 3, 5, 7, 8, 8, 8, 8};
        for (int i = 0; i < asked.length; i++) {
            RingGroup group = new RingGroup(asked[i], 1);
            int last = got[i] - 1;
            checks.due("nodes " + asked[i] + " last up", group.about(last, Scene.UP), 1);
            checks.outOfBounds("nodes " + asked[i], () -> group.about(last + 1, Scene.UP));
            checks.due("nodes " + asked[i] + " voters", group.about(0, Scene.VOTERS), (1 << got[i]) - 1);
        }
    }

    private static void window() {
        int[] asked = {Integer.MIN_VALUE, -1, 0, 1, 2, 7, 8, 9, Integer.MAX_VALUE};
        int[] got = {1, 1, 1, 1, 2, 7, 8, 8, 8};
        for (int i = 0; i < asked.length; i++) {
            RingGroup group = Scene.ring(2, asked[i]);
            Scene.sends(group, 0, 0, 0, false, 12);
            checks.due("window " + asked[i], group.pass(0, 0), got[i]);
        }
    }

    private static void state() {
        RingGroup group = new RingGroup(4, 3);
        for (int node = 0; node < 4; node++) {
            checks.due("state of " + node, Scene.state(group, node),
                    "1 0 0 0 0 0 0 0 0 0 15 0 0 0 0 0 0 0 0 0 0 0 0 0 0 0 0 0 0 0 0 false");
        }
        RingGroup other = new RingGroup(4, 3);
        group.gather(0);
        checks.due("objects are apart", other.about(0, Scene.NUMBER), 0);
    }
}
