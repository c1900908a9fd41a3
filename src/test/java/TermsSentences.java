/** What the document says of nodes, of what they keep, of messages and their places. */
final class TermsSentences {
    private final Checks checks;

    TermsSentences(Checks checks) {
        this.checks = checks;
    }

    void hold(Sentences s) {
        s.in("What it is");
        s.hold("An object is used for at most 512 calls after it has been made;", this::lastOf512Calls);
        s.in("Terms");
        s.hold("NODES 0 .. N - 1 are UP or not,", this::nodesFromZero);
        s.hold("each in a GROUP 0 .. 7 (0 at first).", this::groupsFromZeroToSeven);
        s.hold("A node is of no RING (0) or of one,", this::ofNoRingOrOfOne);
        s.hold("which has a NUMBER, MEMBERS and a TOKEN (at a member that HOLDS it, or lost).", this::tokenHeldOrLost);
        s.hold("Nodes keep, also when they crash: HIGHEST (0), the greatest NUMBER of a ring that they were of;",
                this::highest);
        s.hold("a TABLE of keys 0 .. 15 (longs, 0 at first);", this::tableOfLongs);
        s.hold("APPLIED (0), how many updates it has;", this::applied);
        s.hold("MARK (0);", this::mark);
        s.hold("a VOTE, which is a NUMBER (0) and MEMBERS (all nodes);", this::vote);
        s.hold("and of the ring of that NUMBER,", this::keptOfVotedRing);
        s.hold("while it is of it,", this::keptWhileOfIt);
        s.hold("all SAFE messages that it HAS, by their places (KEPT),", this::keptIfItHas);
        s.hold("and DONE (0), the place of the last one that it APPLIED;", this::done);
        s.hold("these stay when it leaves that ring, by a crash, too,", this::keptStays);
        s.hold("till it is of another PRIMARY one.", this::keptTillNextPrimary);
        s.hold("(GROUP and LOG stay as well.)", this::groupAndLogStay);
        s.hold("A MESSAGE has a sender, a KEY and VALUE, and is AGREED or SAFE (an update).", this::message);
        s.hold("A node's PENDING ones (12 at most) are sent in turn.", this::pending);
        s.hold("In a ring messages have places 1, 2, .. (100 at most);", this::hundredPlaces);
        s.hold("a node HAS some of them.", this::hasSome);
        s.hold("FULL is the greatest place up to which it HAS all.", this::full);
        s.hold("DELIVERED is the place of the last one that it delivered,", this::delivered);
        s.hold("SAFE_TO the greatest place that it knows all members to HAVE.", this::safeTo);
    }

    private void lastOf512Calls() {
        RingGroup gathering = new RingGroup(8, 8);
        int number = 0;
        for (int call = 1; call < 512; call += 2) {
            number = Scene.goes(gathering, 3, call % 4 == 1 ? 5 : 0);
        }
        checks.due("the 512th call gathers", number, 256);
        RingGroup sending = new RingGroup(8, 8);
        int pending = 0;
        for (int call = 0; call < 512; call++) {
            switch (call % 14) {
                case 12 -> sending.crash(7);
                case 13 -> sending.restart(7);
                default -> pending = sending.send(7, 0, call, true);
            }
        }
        checks.due("the 512th call sends", pending, 8);
    }

    private void nodesFromZero() {
        for (int n = 2; n <= 8; n++) {
            RingGroup group = new RingGroup(n, 1);
            int behind = n;
            checks.due("first of " + n, group.about(0, Scene.UP), 1);
            checks.due("last of " + n, group.about(n - 1, Scene.UP), 1);
            checks.outOfBounds("before the first", () -> group.about(-1, Scene.UP));
            checks.outOfBounds("behind the last of " + n, () -> group.about(behind, Scene.UP));
            group.crash(n - 1);
            checks.due("the last crashed", group.about(n - 1, Scene.UP), 0);
            checks.due("the first did not", group.about(0, Scene.UP), 1);
        }
    }

    private void groupsFromZeroToSeven() {
        RingGroup group = new RingGroup(8, 1);
        for (int node = 0; node < 8; node++) {
            checks.due("at first", group.about(node, Scene.GROUP), 0);
            group.part(node, node);
        }
        for (int node = 0; node < 8; node++) {
            checks.due("each in its own", group.about(node, Scene.GROUP), node);
            checks.due("each gathers alone", group.gather(node), 1);
            checks.due("each ring has one member", group.about(node, Scene.MEMBERS), 1 << node);
        }
        checks.badArgument("less than the least", () -> group.part(0, -1));
        checks.badArgument("more than the greatest", () -> group.part(0, 8));
    }

    private void ofNoRingOrOfOne() {
        RingGroup group = new RingGroup(2, 1);
        checks.due("of none", group.about(0, Scene.NUMBER), 0);
        checks.due("its members", group.about(0, Scene.MEMBERS), 0);
        group.gather(0);
        checks.due("of the first", group.about(0, Scene.NUMBER), 1);
        Scene.goes(group, 0, 1);
        checks.due("of the second alone", group.about(0, Scene.NUMBER), 2);
        checks.due("its members", group.about(0, Scene.MEMBERS), 1);
        checks.due("the other is of the first still", group.about(1, Scene.MEMBERS), 3);
        group.crash(0);
        checks.due("of none again", group.about(0, Scene.NUMBER), 0);
    }

    private void tokenHeldOrLost() {
        RingGroup group = Scene.ring(3, 1);
        checks.due("one holds it", holders(group, 3), 0b001);
        group.pass(0, 0);
        checks.due("one again", holders(group, 3), 0b010);
        group.crash(1);
        checks.due("lost", holders(group, 3), 0);
        for (int node = 0; node < 3; node++) {
            int asked = node;
            checks.badState("nobody passes", () -> group.pass(asked, 0));
        }
        RingGroup two = new RingGroup(4, 1);
        two.gather(0);
        Scene.goes(two, 2, 1);
        checks.due("each ring has a token", holders(two, 4), 0b0101);
    }

    private static int holders(RingGroup group, int nodes) {
        int found = 0;
        for (int node = 0; node < nodes; node++) {
            found |= group.about(node, Scene.HOLDS) << node;
        }
        return found;
    }

    private void highest() {
        RingGroup group = new RingGroup(3, 1);
        checks.due("at first", group.about(2, Scene.HIGHEST), 0);
        group.gather(0);
        Scene.goes(group, 2, 1);
        checks.due("of the later ring", group.about(2, Scene.HIGHEST), 2);
        checks.due("of the only ring", group.about(0, Scene.HIGHEST), 1);
        group.crash(2);
        checks.due("kept", group.about(2, Scene.HIGHEST), 2);
        group.restart(2);
        checks.due("kept when up again", group.about(2, Scene.HIGHEST), 2);
        checks.due("and counted on from", group.gather(2), 3);
    }

    private void tableOfLongs() {
        RingGroup group = Scene.ring(2, 8);
        for (int key = 0; key < 16; key++) {
            checks.due("at first", group.table(1, key), 0);
        }
        checks.outOfBounds("before the first key", () -> group.table(1, -1));
        checks.outOfBounds("behind the last key", () -> group.table(1, 16));
        group.send(0, 0, Long.MIN_VALUE, true);
        group.send(0, 15, Long.MAX_VALUE, true);
        Scene.passes(group, 0, 1);
        group.crash(1);
        checks.due("the first key's, kept", group.table(1, 0), Long.MIN_VALUE);
        checks.due("the last key's, kept", group.table(1, 15), Long.MAX_VALUE);
        checks.due("no other's", group.table(1, 14), 0);
    }

    private void applied() {
        RingGroup group = Scene.ring(2, 8);
        checks.due("at first", group.about(1, Scene.APPLIED), 0);
        Scene.sends(group, 0, 4, 0, true, 2);
        group.send(0, 4, 1, true);
        group.send(0, 4, 1, false);
        Scene.passes(group, 0, 1);
        checks.due("updates of one key, one of them twice", group.about(1, Scene.APPLIED), 3);
        group.crash(1);
        checks.due("kept", group.about(1, Scene.APPLIED), 3);
    }

    private void mark() {
        RingGroup group = Scene.ring(2, 1);
        checks.due("at first", group.mark(1), 0);
        group.send(0, 2, -1, true);
        Scene.passes(group, 0, 1);
        checks.due("of one update", group.mark(1), 33);
        group.crash(1);
        checks.due("kept", group.mark(1), 33);
    }

    private void vote() {
        for (int n = 2; n <= 8; n++) {
            RingGroup group = new RingGroup(n, 1);
            checks.due("NUMBER at first", group.about(n - 1, Scene.VOTE), 0);
            checks.due("MEMBERS at first", group.about(n - 1, Scene.VOTERS), (1 << n) - 1);
            group.crash(n - 1);
            checks.due("MEMBERS when crashed", group.about(n - 1, Scene.VOTERS), (1 << n) - 1);
        }
        RingGroup group = new RingGroup(3, 1);
        group.part(2, 1);
        group.gather(0);
        group.crash(1);
        checks.due("NUMBER, kept", group.about(1, Scene.VOTE), 1);
        checks.due("MEMBERS, kept", group.about(1, Scene.VOTERS), 3);
    }

    private void keptOfVotedRing() {
        RingGroup group = Scene.ring(3, 1);
        Scene.goes(group, 2, 1);
        group.send(2, 7, 70, true);
        checks.due("delivered in a ring that is not primary", group.pass(2, 0), 1);
        Scene.reborn(group, 2);
        Scene.goes(group, 2, 0);
        checks.due("all are primary", group.primary(2), true);
        checks.due("but it was not kept", group.about(2, Scene.APPLIED), 0);
    }

    /** 4 is of the first ring no more when 0 sends; 3 gets what 0 sent, 1 and 2 do not; 0 to 3 crash. */
    private static RingGroup sentToThree() {
        RingGroup group = Scene.ring(5, 2);
        Scene.goes(group, 4, 1);
        group.part(4, 0);
        group.send(0, 1, 11, true);
        group.send(0, 2, 22, false);
        group.pass(0, 0b00110);
        for (int node = 0; node < 4; node++) {
            group.crash(node);
        }
        return group;
    }

    private static RingGroup meetFour(int node, int other) {
        RingGroup group = sentToThree();
        group.restart(node);
        group.restart(other);
        group.gather(4);
        return group;
    }

    private void keptWhileOfIt() {
        RingGroup group = meetFour(1, 2);
        checks.due("three of five are primary", group.primary(4), true);
        checks.due("4 had left, so it has kept nothing", group.about(4, Scene.APPLIED), 0);
    }

    private void keptIfItHas() {
        checks.due("of the sender", meetFour(0, 1).table(4, 1), 11);
        checks.due("of one that has it", meetFour(3, 1).table(4, 1), 11);
        checks.due("of such as missed it", meetFour(1, 2).table(4, 1), 0);
        checks.due("agreed ones are not kept", meetFour(0, 3).table(4, 2), 0);
        checks.due("kept by two, applied once", meetFour(0, 3).about(4, Scene.APPLIED), 1);
        RingGroup all = Scene.ring(2, 8);
        Scene.fill(all, 92, false);
        Scene.sends(all, 0, 1, 1, true, 8);
        all.pass(0, 0);
        Scene.reborn(all, 0, 1);
        all.gather(0);
        checks.due("up to the last place", all.about(1, Scene.APPLIED), 8);
    }

    private void done() {
        RingGroup group = Scene.ring(2, 1);
        group.send(0, 1, 1, true);
        group.send(0, 2, 2, true);
        Scene.passes(group, 0, 1, 0);
        checks.due("the first is applied", group.about(0, Scene.APPLIED), 1);
        Scene.reborn(group, 0, 1);
        group.gather(1);
        checks.due("the second alone is left", group.about(0, Scene.APPLIED), 2);
        checks.due("in turn", group.mark(0), (17 + 1) * 31 + 2 * 17 + 2);
        RingGroup none = Scene.ring(2, 1);
        none.send(0, 1, 1, true);
        none.pass(0, 0);
        Scene.reborn(none, 0, 1);
        none.gather(1);
        checks.due("0 at first: place 1 is left", none.about(1, Scene.APPLIED), 1);
        RingGroup all = Scene.ring(2, 8);
        Scene.fill(all, 100, true);
        all.pass(0, 0);
        checks.due("all 100 are applied", all.about(0, Scene.APPLIED), 100);
        Scene.reborn(all, 0, 1);
        all.gather(0);
        checks.due("none is left", all.about(0, Scene.APPLIED), 100);
    }

    /** 2 has KEPT an update that 1 has not and 0, who sent it, does not come back. */
    private static RingGroup keptByTwo() {
        RingGroup group = Scene.ring(3, 1);
        group.send(0, 6, 66, true);
        group.pass(0, 0b010);
        group.crash(0);
        Scene.goes(group, 2, 1);
        return group;
    }

    private void keptStays() {
        RingGroup left = keptByTwo();
        checks.due("told, but not applied", left.about(2, Scene.APPLIED), 0);
        checks.due("one of three is not primary", left.primary(2), false);
        Scene.goes(left, 2, 0);
        checks.due("kept behind a ring that is not primary", left.table(1, 6), 66);
        RingGroup crashed = keptByTwo();
        Scene.reborn(crashed, 2);
        crashed.gather(2);
        Scene.reborn(crashed, 2);
        Scene.goes(crashed, 2, 0);
        checks.due("kept behind crashes", crashed.table(1, 6), 66);
        RingGroup done = Scene.ring(3, 1);
        done.send(0, 6, 66, true);
        Scene.passes(done, 0, 1, 2);
        done.crash(0);
        Scene.goes(done, 2, 1);
        Scene.reborn(done, 1, 2);
        Scene.goes(done, 2, 0);
        checks.due("DONE stays: nothing twice", done.about(1, Scene.APPLIED), 1);
    }

    private void keptTillNextPrimary() {
        RingGroup group = keptByTwo();
        Scene.goes(group, 2, 0);
        checks.due("applied", group.about(2, Scene.APPLIED), 1);
        Scene.reborn(group, 1, 2);
        group.gather(1);
        checks.due("kept no more", group.about(2, Scene.APPLIED), 1);
        group.send(1, 5, 55, true);
        group.pass(1, 0);
        Scene.reborn(group, 1, 2);
        group.gather(2);
        checks.due("DONE is 0 again: place 1 is left", group.about(2, Scene.APPLIED), 2);
        checks.due("and applied", group.table(2, 5), 55);
    }

    private void groupAndLogStay() {
        RingGroup group = Scene.ring(3, 1);
        group.part(1, 7);
        group.send(0, 3, 30, false);
        group.part(1, 0);
        Scene.passes(group, 0, 1);
        group.part(1, 7);
        group.crash(1);
        checks.due("GROUP", group.about(1, Scene.GROUP), 7);
        checks.due("LOG", Scene.log(group, 1), "r7@1 m1.0.3.30@1");
        checks.due("how much it logged", group.about(1, Scene.LOGGED), 2);
        group.restart(1);
        group.gather(1);
        checks.due("LOG goes on", Scene.log(group, 1), "r7@1 m1.0.3.30@1 r2@2");
    }

    private void message() {
        RingGroup group = Scene.ring(3, 2);
        Scene.passes(group, 0);
        group.send(1, 0, Long.MIN_VALUE, false);
        group.send(1, 15, Long.MAX_VALUE, true);
        Scene.passes(group, 1, 2, 0, 1);
        checks.due("sender, KEY, VALUE", Scene.log(group, 0),
                "r7@1 m1.1.0.-9223372036854775808@1 m2.1.15.9223372036854775807@1");
        checks.due("an AGREED one is no update", group.table(0, 0), 0);
        checks.due("a SAFE one is", group.table(0, 15), Long.MAX_VALUE);
    }

    private void pending() {
        RingGroup group = Scene.ring(2, 5);
        for (int i = 1; i <= 12; i++) {
            checks.due("up to 12", group.send(0, 0, i, false), i);
        }
        checks.badState("a 13th", () -> group.send(0, 0, 13, false));
        group.pass(0, 0);
        checks.due("five went", group.about(0, Scene.PENDING), 7);
        for (int i = 8; i <= 12; i++) {
            checks.due("12 again", group.send(0, 0, i + 5, false), i);
        }
        checks.badState("a 13th again", () -> group.send(0, 0, 0, false));
        Scene.passes(group, 1, 0, 1, 0, 1, 0, 1);
        checks.due("all went", group.about(0, Scene.PENDING), 0);
        for (int place = 1; place <= 17; place++) {
            checks.due("in turn", group.entry(1, place, 4), place);
        }
    }

    private void hundredPlaces() {
        RingGroup group = Scene.ring(2, 7);
        for (int pass = 1; pass <= 15; pass++) {
            Scene.sends(group, 0, 1, 0, false, 7);
            checks.due("given and delivered", group.pass(0, 0), pass < 15 ? 7 : 2);
            group.pass(1, 0);
        }
        checks.due("the first place", group.entry(0, 0, 1), 1);
        checks.due("the second", group.entry(0, 1, 1), 2);
        checks.due("the last", group.entry(0, 99, 1), 100);
        checks.due("what got no place stays PENDING", group.about(0, Scene.PENDING), 5);
        checks.due("also later", group.pass(0, 0), 0);
        checks.due("PENDING", group.about(0, Scene.PENDING), 5);
        group.send(1, 2, 20, true);
        checks.due("nor another's", group.pass(1, 0), 0);
        checks.due("PENDING", group.about(1, Scene.PENDING), 1);
        checks.due("FULL", group.about(1, Scene.FULL), 100);
        group.crash(1);
        group.gather(0);
        checks.due("a new ring has places again", group.pass(0, 0), 5);
        checks.due("from 1 on", group.about(0, Scene.DELIVERED), 5);
    }

    private void hasSome() {
        RingGroup group = Scene.ring(3, 1);
        group.send(0, 0, 1, false);
        group.send(1, 0, 2, false);
        group.pass(0, 0b010);
        group.pass(1, 0b100);
        checks.due("0 has both", group.about(0, Scene.FULL), 2);
        checks.due("1 has the second", group.about(1, Scene.FULL), 0);
        checks.due("2 has the first", group.about(2, Scene.FULL), 1);
        group.part(1, 1);
        group.gather(1);
        checks.due("1 had its own", Scene.log(group, 1), "r7@1 t2@1 m2.1.0.2@1 r2@2");
    }

    private void full() {
        RingGroup group = Scene.ring(2, 2);
        checks.due("no places yet", group.about(1, Scene.FULL), 0);
        Scene.sends(group, 0, 0, 0, false, 2);
        group.pass(0, 0b10);
        checks.due("it has none", group.about(1, Scene.FULL), 0);
        group.send(1, 0, 0, true);
        group.pass(1, 0);
        checks.due("it has the third alone", group.about(1, Scene.FULL), 0);
        checks.due("the other has all three", group.about(0, Scene.FULL), 3);
        group.pass(0, 0);
        checks.due("the gap is gone", group.about(1, Scene.FULL), 3);
        RingGroup most = Scene.ring(2, 8);
        Scene.fill(most, 100, false);
        checks.due("all 100", most.about(1, Scene.FULL), 100);
    }

    private void delivered() {
        RingGroup group = Scene.ring(2, 3);
        checks.due("none yet", group.about(0, Scene.DELIVERED), 0);
        group.send(0, 0, 1, false);
        group.send(0, 0, 2, true);
        group.send(0, 0, 3, false);
        group.pass(0, 0);
        checks.due("the first", group.about(0, Scene.DELIVERED), 1);
        checks.due("though it has three", group.about(0, Scene.FULL), 3);
        checks.due("the other none before its pass", group.about(1, Scene.DELIVERED), 0);
        group.pass(1, 0);
        checks.due("all", group.about(1, Scene.DELIVERED), 3);
        RingGroup most = Scene.ring(2, 8);
        Scene.fill(most, 100, true);
        checks.due("all 100", most.about(1, Scene.DELIVERED), 100);
    }

    private void safeTo() {
        RingGroup group = Scene.ring(2, 8);
        checks.due("at first", group.about(1, Scene.SAFE_TO), 0);
        Scene.sends(group, 0, 0, 1, false, 3);
        Scene.passes(group, 0, 1);
        checks.due("0 does not know yet", group.about(0, Scene.SAFE_TO), 0);
        checks.due("1 knows, of agreed ones too", group.about(1, Scene.SAFE_TO), 3);
        group.send(0, 0, 4, false);
        group.pass(0, 0b10);
        checks.due("0 knows", group.about(0, Scene.SAFE_TO), 3);
        group.pass(1, 0);
        checks.due("what itself does not have is not safe", group.about(1, Scene.SAFE_TO), 3);
        RingGroup most = Scene.ring(2, 8);
        Scene.fill(most, 100, true);
        checks.due("all 100", most.about(1, Scene.SAFE_TO), 100);
    }
}
