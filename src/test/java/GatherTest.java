/** Promise 4. */
public final class GatherTest {
    private static final Checks checks = new Checks("GatherTest");

    public static void main(String[] args) {
        numbers();
        nothingHappens();
        lostTokenMakesNewRing();
        leftIsToldBeforeRing();
        safeTold();
        behindGapOnlyOfTogether();
        notAppliedBehindTransition();
        appliedBeforeTransition();
        greatestSafeTo();
        twoRingsMeet();
        quorums();
        keptOutlivesCrash();
        keptOfOthersIsApplied();
        tableComesFromForemost();
        keptIsForgotten();
        doneBeginsAnew();
        onlyOfVotedRingIsKept();
        newTokenKnowsNothing();
        nothingIsRequestedAnew();
        pendingStays();
        restOfOldRing();
        wrongCalls();
        checks.end();
    }

    private static void numbers() {
        RingGroup group = new RingGroup(3, 1);
        checks.due("first", group.gather(2), 1);
        group.part(2, 1);
        checks.due("two of them", group.gather(0), 2);
        checks.due("the third", group.gather(2), 2);
        group.part(1, 2);
        checks.due("one", group.gather(0), 3);
        checks.due("its HIGHEST", group.about(0, Scene.HIGHEST), 3);
        checks.due("not of the ring", group.about(1, Scene.HIGHEST), 2);
        group.part(1, 1);
        checks.due("two", group.gather(1), 3);
        group.part(0, 1);
        checks.due("all", group.gather(0), 4);
        for (int node = 0; node < 3; node++) {
            checks.due("NUMBER", group.about(node, Scene.NUMBER), 4);
            checks.due("MEMBERS", group.about(node, Scene.MEMBERS), 7);
            checks.due("HIGHEST", group.about(node, Scene.HIGHEST), 4);
            checks.due("HOLDS", group.about(node, Scene.HOLDS), node == 0 ? 1 : 0);
        }
    }

    private static void nothingHappens() {
        RingGroup group = Scene.ring(3, 1);
        String before = Scene.states(group, 3);
        for (int node = 0; node < 3; node++) {
            checks.due("whole ring", group.gather(node), 0);
        }
        checks.due("unchanged", Scene.states(group, 3), before);
        group.part(2, 1);
        group.part(2, 0);
        checks.due("back before anyone gathered", group.gather(2), 0);
        group.crash(2);
        group.restart(2);
        checks.due("one is of no ring", group.gather(0), 2);
    }

    private static void lostTokenMakesNewRing() {
        RingGroup group = Scene.ring(3, 1);
        group.part(1, 1);
        group.pass(0, 0);
        group.part(1, 0);
        checks.due("new ring of the same", group.gather(1), 2);
        checks.due("log", Scene.log(group, 2), "r7@1 t7@1 r7@2");
    }

    private static void leftIsToldBeforeRing() {
        RingGroup group = Scene.ring(3, 2);
        group.send(0, 1, 10, false);
        group.send(0, 2, 20, true);
        group.pass(0, 0b010);
        group.crash(0);
        checks.due("gather", group.gather(1), 2);
        String want = "r7@1 m1.0.1.10@1 t6@1 m2.0.2.20@1 r6@2";
        checks.due("1 got it of 2", Scene.log(group, 1), want);
        checks.due("2", Scene.log(group, 2), want);
        checks.due("the new ring has no places", group.about(1, Scene.FULL), 0);
        checks.due("DELIVERED", group.about(1, Scene.DELIVERED), 0);
        checks.due("SAFE_TO", group.about(1, Scene.SAFE_TO), 0);
    }

    private static void safeTold() {
        RingGroup group = Scene.ring(2, 2);
        group.send(0, 1, 10, true);
        Scene.passes(group, 0, 1);
        group.part(1, 1);
        group.gather(0);
        checks.due("0 did not know that it was safe", Scene.log(group, 0), "r3@1 t1@1 m1.0.1.10@1 r1@2");
        group.gather(1);
        checks.due("1 knew", Scene.log(group, 1), "r3@1 m1.0.1.10@1 t2@1 r2@2");
    }

    private static void behindGapOnlyOfTogether() {
        RingGroup group = Scene.ring(4, 1);
        group.send(0, 0, 1, false);
        group.send(1, 0, 2, false);
        group.send(2, 0, 3, true);
        group.send(3, 0, 4, false);
        group.pass(0, 0b1100);
        group.pass(1, 0b0001);
        group.pass(2, 0b0011);
        group.pass(3, 0b0011);
        group.part(2, 1);
        group.part(3, 1);
        group.gather(2);
        checks.due("first is missing: 2's and 3's own alone", Scene.log(group, 2),
                "r15@1 t12@1 m3.2.0.3@1 m4.3.0.4@1 r12@2");
        checks.due("3 the same", Scene.log(group, 3), Scene.log(group, 2));
        group.gather(0);
        checks.due("0 and 1 have no gap", Scene.log(group, 0), "r15@1 m1.0.0.1@1 m2.1.0.2@1 t3@1 r3@2");
        checks.due("1 the same", Scene.log(group, 1), Scene.log(group, 0));
    }

    private static void notAppliedBehindTransition() {
        RingGroup group = Scene.ring(3, 1);
        group.send(2, 7, 70, true);
        group.pass(0, 0);
        group.pass(1, 0);
        group.pass(2, 0);
        group.part(2, 1);
        group.gather(2);
        checks.due("2 delivered it", Scene.log(group, 2), "r7@1 t4@1 m1.2.7.70@1 r4@2");
        checks.due("but did not apply it", group.about(2, Scene.APPLIED), 0);
        checks.due("nor its table", group.table(2, 7), 0);
        group.gather(0);
        checks.due("0 and 1 apply what is kept, as they are primary", group.table(0, 7), 70);
        checks.due("once", group.about(1, Scene.APPLIED), 1);
    }

    private static void appliedBeforeTransition() {
        RingGroup group = Scene.ring(3, 1);
        group.send(0, 7, 70, true);
        Scene.passes(group, 0, 1, 2);
        group.part(2, 1);
        group.gather(2);
        checks.due("2 applied it in its pass", group.about(2, Scene.APPLIED), 1);
        RingGroup pair = Scene.ring(3, 1);
        pair.send(0, 7, 70, true);
        Scene.passes(pair, 0, 1, 2);
        pair.part(0, 1);
        pair.gather(0);
        checks.due("0 alone did not know", pair.about(0, Scene.APPLIED), 0);
        pair.part(1, 2);
        pair.part(2, 2);
        pair.gather(1);
        checks.due("1 learnt SAFE_TO of 2", Scene.log(pair, 1), "r7@1 m1.0.7.70@1 t6@1 r6@2");
        checks.due("1 applied once", pair.about(1, Scene.APPLIED), 1);
    }

    private static void greatestSafeTo() {
        RingGroup group = Scene.ring(5, 1);
        group.send(0, 7, 70, true);
        Scene.passes(group, 0, 1, 2, 3, 4);
        group.part(3, 1);
        group.part(4, 1);
        group.gather(3);
        checks.due("not primary", group.primary(3), false);
        checks.due("3 applied it before the transition", Scene.log(group, 3), "r31@1 m1.0.7.70@1 t24@1 r24@2");
        RingGroup least = Scene.ring(3, 1);
        least.send(0, 7, 70, true);
        Scene.passes(least, 0, 1, 2, 0);
        least.part(2, 1);
        least.gather(1);
        checks.due("1 learnt it of 0", Scene.log(least, 1), "r7@1 m1.0.7.70@1 t3@1 r3@2");
        checks.due("the table of 3", group.table(3, 7), 70);
        checks.due("APPLIED of 3", group.about(3, Scene.APPLIED), 1);
    }

    private static void newTokenKnowsNothing() {
        RingGroup group = Scene.ring(3, 2);
        Scene.sends(group, 0, 0, 1, false, 2);
        group.pass(0, 0b010);
        Scene.passes(group, 1, 2, 0);
        group.part(1, 1);
        group.gather(1);
        group.part(1, 0);
        checks.due("all anew", group.gather(0), 3);
        Scene.sends(group, 0, 1, 1, true, 2);
        checks.due("nobody's FULL is known yet", group.pass(0, 0b010), 0);
        checks.due("SAFE_TO", group.about(0, Scene.SAFE_TO), 0);
    }

    private static void nothingIsRequestedAnew() {
        RingGroup group = Scene.ring(3, 1);
        group.send(0, 0, 1, false);
        group.pass(0, 0b110);
        group.pass(1, 0);
        group.part(2, 1);
        group.gather(2);
        group.part(2, 0);
        checks.due("all anew", group.gather(0), 3);
        group.send(0, 0, 2, false);
        group.pass(0, 0b100);
        group.pass(1, 0);
        checks.due("place 1 was requested of the old token alone", group.about(2, Scene.FULL), 0);
    }

    private static void twoRingsMeet() {
        RingGroup group = new RingGroup(4, 2);
        group.part(2, 1);
        group.part(3, 1);
        group.gather(0);
        group.gather(2);
        group.send(0, 0, 1, false);
        group.send(2, 0, 2, false);
        Scene.passes(group, 0, 2);
        group.part(2, 0);
        group.part(3, 0);
        checks.due("number", group.gather(3), 2);
        checks.due("0", Scene.log(group, 0), "r3@1 m1.0.0.1@1 t3@1 r15@2");
        checks.due("1", Scene.log(group, 1), "r3@1 m1.0.0.1@1 t3@1 r15@2");
        checks.due("2", Scene.log(group, 2), "r12@1 m1.2.0.2@1 t12@1 r15@2");
        checks.due("3", Scene.log(group, 3), "r12@1 m1.2.0.2@1 t12@1 r15@2");
        RingGroup fresh = Scene.ring(3, 1);
        fresh.crash(2);
        fresh.restart(2);
        fresh.gather(0);
        checks.due("who was of no ring tells no transition", Scene.log(fresh, 2), "r7@1 r7@2");
    }

    private static void quorums() {
        for (int members = 1; members < 16; members++) {
            RingGroup group = new RingGroup(4, 1);
            int first = -1;
            for (int node = 0; node < 4; node++) {
                if ((members >> node & 1) == 0) {
                    group.part(node, 1);
                } else if (first < 0) {
                    first = node;
                }
            }
            group.gather(first);
            int count = Integer.bitCount(members);
            boolean primary = count > 2 || count == 2 && (members & 1) != 0;
            checks.due("of four " + members, group.primary(first), primary);
            checks.due("vote " + members, group.about(first, Scene.VOTE), primary ? 1 : 0);
            checks.due("voters " + members, group.about(first, Scene.VOTERS), primary ? members : 15);
        }
        RingGroup shrinking = Scene.ring(5, 1);
        shrinking.part(3, 1);
        shrinking.part(4, 1);
        shrinking.gather(0);
        shrinking.part(0, 2);
        shrinking.gather(1);
        checks.due("two of three", shrinking.primary(1), true);
        shrinking.part(1, 1);
        shrinking.gather(1);
        checks.due("1 is the least of {1, 2}, so with it half is enough", shrinking.primary(4), true);
        shrinking.part(2, 3);
        shrinking.gather(2);
        shrinking.part(0, 3);
        shrinking.gather(2);
        checks.due("the other half is not", shrinking.primary(2), false);
    }

    private static void keptOutlivesCrash() {
        RingGroup group = Scene.ring(2, 2);
        group.send(1, 3, 33, true);
        group.send(1, 4, 44, false);
        group.pass(0, 0);
        group.pass(1, 0);
        group.crash(0);
        group.crash(1);
        group.restart(0);
        group.gather(0);
        checks.due("0 had kept it", group.table(0, 3), 33);
        checks.due("agreed ones are not kept", group.table(0, 4), 0);
        checks.due("not told", Scene.log(group, 0), "r3@1 r1@2");
        checks.due("APPLIED", group.about(0, Scene.APPLIED), 1);
        checks.due("MARK", group.mark(0), 3 * 17 + 33);
        group.restart(1);
        group.gather(1);
        checks.due("1 gets the table", group.table(1, 3), 33);
        checks.due("1 does not apply its own again", group.about(1, Scene.APPLIED), 1);
    }

    private static void keptOfOthersIsApplied() {
        RingGroup group = Scene.ring(3, 1);
        group.send(0, 1, 1, true);
        group.send(1, 2, 2, true);
        group.pass(0, 0b010);
        group.pass(1, 0b100);
        group.crash(0);
        group.crash(1);
        group.crash(2);
        group.restart(1);
        group.restart(2);
        group.gather(2);
        checks.due("the first of 2", group.table(1, 1), 1);
        checks.due("the second of 1", group.table(2, 2), 2);
        checks.due("in turn", group.mark(1), (1 * 17 + 1) * 31 + 2 * 17 + 2);
        checks.due("the same", group.mark(2), group.mark(1));
    }

    private static void tableComesFromForemost() {
        RingGroup group = Scene.ring(3, 1);
        group.part(2, 1);
        group.gather(0);
        group.send(0, 5, 55, true);
        Scene.passes(group, 0, 1, 0);
        group.gather(2);
        group.send(2, 5, 66, true);
        group.pass(2, 0);
        group.part(0, 1);
        group.gather(2);
        checks.due("0 is the least of {0, 1}", group.primary(2), true);
        checks.due("2 gets 0's table", group.table(2, 5), 55);
        checks.due("2 gets 0's APPLIED", group.about(2, Scene.APPLIED), 1);
        checks.due("2 gets 0's MARK", group.mark(2), group.mark(0));
        checks.due("vote", group.about(2, Scene.VOTE), 3);
    }

    private static void keptIsForgotten() {
        RingGroup group = Scene.ring(2, 1);
        group.send(0, 1, 1, true);
        Scene.passes(group, 0, 1, 0);
        group.crash(1);
        group.gather(0);
        group.crash(0);
        group.restart(0);
        group.gather(0);
        checks.due("nothing is applied twice", group.about(0, Scene.APPLIED), 1);
        group.send(0, 2, 2, true);
        group.pass(0, 0);
        checks.due("DONE begins anew", group.about(0, Scene.APPLIED), 2);
        group.crash(0);
        group.restart(0);
        group.gather(0);
        checks.due("and is kept in a crash", group.about(0, Scene.APPLIED), 2);
    }

    private static void doneBeginsAnew() {
        RingGroup group = Scene.ring(3, 1);
        group.send(0, 1, 1, true);
        Scene.passes(group, 0, 1, 2, 0, 1);
        group.crash(2);
        group.gather(0);
        group.send(0, 2, 2, true);
        group.pass(0, 0);
        checks.due("not known to be safe", group.about(0, Scene.APPLIED), 1);
        group.crash(0);
        group.crash(1);
        group.restart(0);
        group.restart(1);
        group.gather(1);
        checks.due("place 1 of the later ring is not done", group.about(0, Scene.APPLIED), 2);
        checks.due("nor lost", group.table(1, 2), 2);
        group.crash(0);
        group.crash(1);
        group.restart(0);
        group.restart(1);
        group.gather(1);
        checks.due("what was kept before is forgotten", group.about(0, Scene.APPLIED), 2);
    }

    private static void onlyOfVotedRingIsKept() {
        RingGroup group = Scene.ring(5, 1);
        group.part(0, 1);
        group.part(1, 1);
        group.gather(0);
        checks.due("two of five", group.primary(0), false);
        group.send(0, 4, 44, true);
        Scene.passes(group, 0, 1, 0, 1);
        checks.due("delivered", group.about(0, Scene.DELIVERED), 1);
        group.part(2, 1);
        group.gather(2);
        checks.due("three of five", group.primary(0), true);
        checks.due("not kept", group.table(0, 4), 0);
        checks.due("not applied", group.about(2, Scene.APPLIED), 0);
    }

    private static void pendingStays() {
        RingGroup group = Scene.ring(2, 1);
        Scene.sends(group, 0, 0, 5, false, 3);
        group.pass(0, 0);
        group.crash(1);
        group.gather(0);
        checks.due("pending", group.about(0, Scene.PENDING), 2);
        group.pass(0, 0);
        checks.due("goes on in the new ring", Scene.log(group, 0), "r3@1 m1.0.0.5@1 t1@1 r1@2 m1.0.0.6@2");
    }

    private static void restOfOldRing() {
        RingGroup group = Scene.ring(3, 1);
        group.send(1, 0, 1, false);
        group.part(0, 1);
        group.gather(0);
        checks.due("1 is still of the old ring", group.about(1, Scene.MEMBERS), 7);
        group.part(0, 0);
        checks.due("all meet again", group.gather(1), 3);
        checks.due("1 tells who was left", Scene.log(group, 1), "r7@1 t6@1 r7@3");
        checks.due("0 tells its own", Scene.log(group, 0), "r7@1 t1@1 r1@2 t1@2 r7@3");
    }

    private static void wrongCalls() {
        RingGroup group = Scene.ring(3, 1);
        checks.outOfBounds("node -1", () -> group.gather(-1));
        checks.outOfBounds("node 3", () -> group.gather(3));
        group.crash(1);
        String before = Scene.states(group, 3);
        checks.badState("not up", () -> group.gather(1));
        checks.due("unchanged", Scene.states(group, 3), before);
    }
}
