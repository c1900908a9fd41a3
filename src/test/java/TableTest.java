/** Promise 9. */
public final class TableTest {
    private static final Checks checks = new Checks("TableTest");

    public static void main(String[] args) {
        values();
        wrongCalls();
        checks.end();
    }

    private static void values() {
        RingGroup group = Scene.ring(2, 8);
        for (int key = 0; key < 16; key += 2) {
            group.send(0, key, key * 1_000_000_000_000L - 1, true);
            group.send(0, key + 1, Long.MAX_VALUE, key % 4 == 0);
            if (key % 8 == 6) {
                Scene.passes(group, 0, 1, 0, 1);
            }
        }
        for (int key = 0; key < 16; key++) {
            long want = key % 2 == 0 ? key * 1_000_000_000_000L - 1 : key % 4 == 1 ? Long.MAX_VALUE : 0;
            checks.due("key " + key, group.table(0, key), want);
            checks.due("key " + key, group.table(1, key), want);
        }
        group.send(0, 4, Long.MIN_VALUE, true);
        group.send(1, 4, -7, true);
        Scene.passes(group, 0, 1);
        checks.due("1 knows the first", group.table(1, 4), Long.MIN_VALUE);
        Scene.passes(group, 0, 1);
        checks.due("the later one stands", group.table(1, 4), -7);
    }

    private static void wrongCalls() {
        RingGroup group = new RingGroup(3, 1);
        checks.outOfBounds("node -1", () -> group.table(-1, 0));
        checks.outOfBounds("node 3", () -> group.table(3, 0));
        checks.outOfBounds("key -1", () -> group.table(0, -1));
        checks.outOfBounds("key 16", () -> group.table(0, 16));
        checks.due("key 15", group.table(2, 15), 0);
    }
}
