/** Promise 10. */
public final class MarkTest {
    private static final Checks checks = new Checks("MarkTest");

    public static void main(String[] args) {
        grows();
        wrongCalls();
        checks.end();
    }

    private static void grows() {
        RingGroup group = Scene.ring(2, 8);
        long want = 0;
        for (int i = 0; i < 30; i++) {
            int key = i * 7 % 16;
            long value = i * 0x1234_5678_9abc_def1L;
            group.send(0, key, value, i % 3 != 0);
            Scene.passes(group, 0, 1);
            if (i % 3 != 0) {
                want = want * 31 + key * 17 + value;
            }
            checks.due("mark of 1", group.mark(1), want);
        }
        checks.due("0 is a step behind", group.mark(0) == want, false);
        group.pass(0, 0);
        checks.due("mark of 0", group.mark(0), want);
    }

    private static void wrongCalls() {
        RingGroup group = new RingGroup(3, 1);
        checks.outOfBounds("node -1", () -> group.mark(-1));
        checks.outOfBounds("node 3", () -> group.mark(3));
        checks.due("at first", group.mark(2), 0);
    }
}
