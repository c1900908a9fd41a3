/** Promise 3. */
public final class PassTest {
    private static final Checks checks = new Checks("PassTest");

    public static void main(String[] args) {
        agreedAtOnce();
        safeWhenAllHave();
        safeHoldsBackWhatIsBehind();
        missesAndRequests();
        requestsLeastFirstByWhoHas();
        resendMissedAgain();
        requestedNoMore();
        bitsOfNobody();
        hundredPlaces();
        tokenGoesOn();
        tokenIsLost();
        sendsOnlyToReachable();
        ringOfOne();
        updatesOnlyInPrimary();
        wrongCalls();
        checks.end();
    }

    private static void agreedAtOnce() {
        RingGroup group = Scene.ring(3, 2);
        Scene.sends(group, 0, 1, 5, false, 3);
        checks.due("own at once", group.pass(0, 0), 2);
        checks.due("others have them", group.about(2, Scene.FULL), 2);
        checks.due("others deliver later", group.about(2, Scene.DELIVERED), 0);
        checks.due("delivers others'", group.pass(1, 0), 2);
        checks.due("delivers others'", group.pass(2, 0), 2);
        checks.due("the third", group.pass(0, 0), 1);
        checks.due("agreed ones change no table", group.about(0, Scene.APPLIED), 0);
    }

    private static void safeWhenAllHave() {
        RingGroup group = Scene.ring(3, 8);
        group.send(0, 1, 5, true);
        checks.due("not yet safe at 0", group.pass(0, 0), 0);
        checks.due("not yet safe at 1", group.pass(1, 0), 0);
        checks.due("SAFE_TO of 1", group.about(1, Scene.SAFE_TO), 0);
        checks.due("2 knows all have it", group.pass(2, 0), 1);
        checks.due("SAFE_TO of 2", group.about(2, Scene.SAFE_TO), 1);
        checks.due("0 knows", group.pass(0, 0), 1);
        checks.due("1 knows", group.pass(1, 0), 1);
        checks.due("applied", group.table(1, 1), 5);
    }

    private static void safeHoldsBackWhatIsBehind() {
        RingGroup group = Scene.ring(2, 8);
        group.send(0, 1, 1, false);
        group.send(0, 1, 2, true);
        group.send(0, 1, 3, false);
        checks.due("up to the safe one", group.pass(0, 0), 1);
        checks.due("all", group.pass(1, 0), 3);
        checks.due("the rest", group.pass(0, 0), 2);
        checks.due("in order", Scene.log(group, 0), "r3@1 m1.0.1.1@1 m2.0.1.2@1 m3.0.1.3@1");
    }

    private static void missesAndRequests() {
        RingGroup group = Scene.ring(3, 8);
        Scene.sends(group, 0, 0, 1, false, 2);
        group.pass(0, 0b010);
        checks.due("1 has nothing", group.about(1, Scene.FULL), 0);
        checks.due("2 has both", group.about(2, Scene.FULL), 2);
        group.send(1, 0, 9, false);
        checks.due("1 delivers nothing, not its own either", group.pass(1, 0), 0);
        checks.due("its own is behind a gap", group.about(1, Scene.FULL), 0);
        checks.due("2 sends again and delivers", group.pass(2, 0), 3);
        checks.due("1 has all", group.about(1, Scene.FULL), 3);
        checks.due("0 delivers the third", group.pass(0, 0), 1);
        checks.due("1 delivers all", group.pass(1, 0), 3);
    }

    private static void requestsLeastFirstByWhoHas() {
        RingGroup group = Scene.ring(3, 1);
        group.send(0, 0, 1, false);
        group.send(1, 0, 2, false);
        group.pass(0, 0b110);
        group.pass(1, 0b101);
        checks.due("2 has neither", group.about(2, Scene.FULL), 0);
        group.pass(2, 0);
        group.pass(0, 0);
        checks.due("0 sent the first again, 1 now has both", group.about(1, Scene.FULL), 2);
        checks.due("2 has the first", group.about(2, Scene.FULL), 1);
        group.pass(1, 0);
        checks.due("2 has both", group.about(2, Scene.FULL), 2);
        checks.due("0 has both", group.about(0, Scene.FULL), 2);
    }

    private static void resendMissedAgain() {
        RingGroup group = Scene.ring(3, 1);
        group.send(0, 0, 1, true);
        group.pass(0, 0b110);
        group.pass(1, 0);
        group.pass(2, 0);
        group.pass(0, 0b010);
        checks.due("2 got it again", group.about(2, Scene.FULL), 1);
        checks.due("1 missed it again", group.about(1, Scene.FULL), 0);
        checks.due("nobody asks till 1 passes", group.pass(1, 0), 0);
        group.pass(2, 0);
        checks.due("2 sent it", group.about(1, Scene.FULL), 1);
        checks.due("the token's FULL of 1 is still 0", group.pass(0, 0), 0);
        checks.due("1 tells the token", group.pass(1, 0), 1);
    }

    private static void requestedNoMore() {
        RingGroup group = Scene.ring(4, 1);
        group.send(0, 0, 1, false);
        group.pass(0, 0b1000);
        Scene.passes(group, 1, 2, 3);
        group.pass(0, 0b1000);
        group.pass(1, 0);
        group.pass(2, 0);
        checks.due("sent again once, though 3 missed it", group.about(3, Scene.FULL), 0);
        group.pass(3, 0);
        group.pass(0, 0);
        checks.due("3 asked again", group.about(3, Scene.FULL), 1);
    }

    private static void bitsOfNobody() {
        RingGroup group = Scene.ring(2, 1);
        group.send(0, 0, 1, false);
        checks.due("own bit and bits of nobody", group.pass(0, ~0b010), 1);
        checks.due("1 has it", group.about(1, Scene.FULL), 1);
        group.send(1, 0, 2, false);
        checks.due("all bits", group.pass(1, -1), 2);
        checks.due("0 missed it", group.about(0, Scene.FULL), 1);
    }

    private static void hundredPlaces() {
        RingGroup group = Scene.ring(2, 8);
        for (int i = 0; i < 7; i++) {
            Scene.sends(group, 0, 0, i, false, 8);
            Scene.sends(group, 1, 1, i, false, 8);
            Scene.passes(group, 0, 1);
        }
        checks.due("FULL", group.about(1, Scene.FULL), 100);
        checks.due("4 of 8 stay pending", group.about(0, Scene.PENDING), 4);
        checks.due("all 8 stay pending", group.about(1, Scene.PENDING), 8);
        checks.due("no more", group.pass(0, 0), 0);
        checks.due("still pending", group.about(0, Scene.PENDING), 4);
        group.crash(1);
        group.gather(0);
        checks.due("in the new ring from the first place on", group.pass(0, 0), 4);
        checks.due("FULL", group.about(0, Scene.FULL), 4);
    }

    private static void tokenGoesOn() {
        RingGroup group = new RingGroup(5, 1);
        group.crash(1);
        group.part(3, 2);
        group.gather(4);
        checks.due("members", group.about(4, Scene.MEMBERS), 0b10101);
        int[] order = {0, 2, 4, 0, 2, 4};
        for (int node : order) {
            for (int other = 0; other < 5; other++) {
                checks.due("holds", group.about(other, Scene.HOLDS), other == node ? 1 : 0);
            }
            group.pass(node, 0);
        }
    }

    private static void tokenIsLost() {
        RingGroup crashed = Scene.ring(3, 1);
        crashed.crash(1);
        checks.due("passes to the crashed", crashed.pass(0, 0), 0);
        nobodyHolds("next is not up", crashed);

        RingGroup back = Scene.ring(3, 1);
        back.crash(1);
        back.restart(1);
        back.pass(0, 0);
        nobodyHolds("next is up again, but of no ring", back);

        RingGroup parted = Scene.ring(3, 1);
        parted.part(1, 4);
        parted.pass(0, 0);
        nobodyHolds("next is in another group", parted);
        parted.part(1, 0);
        nobodyHolds("a lost token does not come back", parted);

        RingGroup left = Scene.ring(3, 1);
        left.part(1, 4);
        left.gather(1);
        left.part(1, 0);
        left.pass(0, 0);
        checks.due("0 holds none", left.about(0, Scene.HOLDS), 0);
        checks.due("2 holds none", left.about(2, Scene.HOLDS), 0);
        checks.due("1 holds its own", left.about(1, Scene.HOLDS), 1);
    }

    private static void nobodyHolds(String what, RingGroup group) {
        for (int node = 0; node < 3; node++) {
            int asked = node;
            checks.due(what, group.about(node, Scene.HOLDS), 0);
            checks.badState(what, () -> group.pass(asked, 0));
        }
    }

    private static void sendsOnlyToReachable() {
        RingGroup group = Scene.ring(5, 1);
        group.part(2, 1);
        group.crash(3);
        group.restart(3);
        group.crash(4);
        group.send(0, 0, 1, false);
        group.pass(0, 0);
        checks.due("1 has it", group.about(1, Scene.FULL), 1);
        checks.due("2 is in another group", group.about(2, Scene.FULL), 0);
        checks.due("3 is of no ring", group.about(3, Scene.FULL), 0);
        checks.due("4 is not up", group.about(4, Scene.FULL), 0);
        group.part(2, 0);
        group.send(1, 0, 2, false);
        group.pass(1, 0);
        checks.due("2 is back, with a gap", group.about(2, Scene.FULL), 0);
        group.pass(2, 0);
        checks.due("nobody passes on", group.about(3, Scene.HOLDS), 0);
    }

    private static void ringOfOne() {
        RingGroup group = new RingGroup(2, 1);
        group.part(1, 1);
        group.gather(1);
        group.send(1, 2, 3, true);
        checks.due("safe at once", group.pass(1, 0), 1);
        checks.due("still holds", group.about(1, Scene.HOLDS), 1);
        checks.due("nothing more", group.pass(1, -1), 0);
        checks.due("SAFE_TO", group.about(1, Scene.SAFE_TO), 1);
    }

    private static void updatesOnlyInPrimary() {
        RingGroup group = new RingGroup(2, 1);
        group.part(1, 1);
        group.gather(0);
        group.gather(1);
        group.send(0, 2, 3, true);
        group.send(1, 2, 4, true);
        Scene.passes(group, 0, 1);
        checks.due("half with the least is primary", group.table(0, 2), 3);
        checks.due("the other half is not", group.table(1, 2), 0);
        checks.due("it delivers all the same", group.about(1, Scene.DELIVERED), 1);
    }

    private static void wrongCalls() {
        RingGroup group = new RingGroup(3, 1);
        checks.badState("no ring", () -> group.pass(0, 0));
        group.gather(0);
        checks.outOfBounds("node -1", () -> group.pass(-1, 0));
        checks.outOfBounds("node 3", () -> group.pass(3, 0));
        group.send(1, 0, 0, false);
        String before = Scene.states(group, 3);
        checks.badState("another holds", () -> group.pass(1, 0));
        checks.due("unchanged", Scene.states(group, 3), before);
        group.crash(0);
        checks.badState("crashed", () -> group.pass(0, 0));
    }
}
