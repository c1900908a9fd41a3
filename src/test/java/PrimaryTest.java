/** Promise 12. */
public final class PrimaryTest {
    private static final Checks checks = new Checks("PrimaryTest");

    public static void main(String[] args) {
        ringsAndNone();
        sameNumbers();
        wrongCalls();
        checks.end();
    }

    private static void ringsAndNone() {
        RingGroup group = new RingGroup(3, 1);
        checks.due("without a ring", group.primary(0), false);
        group.gather(0);
        checks.due("all", group.primary(0), true);
        group.part(0, 1);
        checks.due("parted, but of the ring still", group.primary(0), true);
        group.gather(0);
        checks.due("one of three", group.primary(0), false);
        checks.due("the old ring's rest", group.primary(1), true);
        group.crash(1);
        checks.due("crashed", group.primary(1), false);
        group.restart(1);
        checks.due("of no ring", group.primary(1), false);
        group.gather(1);
        checks.due("two of three", group.primary(1), true);
    }

    private static void sameNumbers() {
        RingGroup group = Scene.ring(3, 1);
        group.part(2, 1);
        checks.due("ring", group.gather(0), 2);
        checks.due("another of the same number", group.gather(2), 2);
        checks.due("of two", group.primary(1), true);
        checks.due("of one", group.primary(2), false);
    }

    private static void wrongCalls() {
        RingGroup group = new RingGroup(3, 1);
        checks.outOfBounds("node -1", () -> group.primary(-1));
        checks.outOfBounds("node 3", () -> group.primary(3));
    }
}
