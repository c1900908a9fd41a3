/** What the document says of a PASS, line by line. */
final class PassSentences {
    private final Checks checks;

    PassSentences(Checks checks) {
        this.checks = checks;
    }

    void hold(Sentences s) {
        s.in("Terms");
        s.hold("A PASS of the token by the node that HOLDS it:", this::holderAlone);
        s.hold("the token's FULL of the node becomes its FULL;", this::fullOfWhatOthersSent);
        s.hold("of the places that are REQUESTED (the least first)", this::allRequested);
        s.hold("those that the node HAS are sent again,", this::sentAgainByWhoHas);
        s.hold("and are REQUESTED no more;", this::requestedNoMore);
        s.hold("at most WINDOW of its PENDING messages get the next places,", this::atMostWindow);
        s.hold("as long as there are such;", this::noPlacesLeft);
        s.hold("the node HAS them, and they are sent;", this::senderHasThem);
        s.hold("the token's FULL of the node becomes its FULL;", this::fullOfItsOwn);
        s.hold("SAFE_TO the least FULL of all members that the token knows", this::leastFullKnown);
        s.hold("(0 of those that it did not come to yet),", this::notComeToYet);
        s.hold("if that is greater;", this::safeToGrowsOnly);
        s.hold("all places up to the last one given", this::upToLastGiven);
        s.hold("that the node does not HAVE are REQUESTED (of the token);", this::missingRequested);
        s.hold("it delivers: behind DELIVERED, in turn, as long as it HAS the next one", this::deliversInTurn);
        s.hold("and that is AGREED or not behind SAFE_TO;", this::agreedOrSafe);
        s.hold("the next member by number (behind the last one the first) HOLDS the token,", this::nextMember);
        s.hold("if it is UP,", this::nextNotUp);
        s.hold("in the same GROUP", this::nextInAnotherGroup);
        s.hold("and still of this ring;", this::nextOfAnotherRing);
        s.hold("else the token is lost.", this::tokenIsLost);
        s.hold("What is sent comes to all members but the node itself", this::comesToMembers);
        s.hold("that are UP,", this::comesToThoseUp);
        s.hold("in its GROUP,", this::comesToItsGroup);
        s.hold("still of the ring,", this::comesToItsRing);
        s.hold("and not among those told to MISS it.", this::comesNotToThoseMissing);
        s.hold("(Who MISSES is told for one PASS.)", this::missesOnePass);
    }

    private void holderAlone() {
        RingGroup group = Scene.ring(3, 1);
        Scene.sends(group, 1, 0, 0, false, 1);
        String before = Scene.states(group, 3);
        checks.badState("1 does not hold it yet", () -> group.pass(1, 0));
        checks.badState("nor 2", () -> group.pass(2, 0));
        checks.due("nothing changed", Scene.states(group, 3), before);
        group.pass(0, 0);
        checks.badState("0 holds it no more", () -> group.pass(0, 0));
        checks.due("1 holds it", group.pass(1, 0), 1);
    }

    private void fullOfWhatOthersSent() {
        RingGroup group = Scene.ring(2, 1);
        group.send(0, 0, 1, true);
        Scene.passes(group, 0);
        checks.due("1 tells the token of place 1 when it passes", group.pass(1, 0), 1);
        checks.due("so 0 knows", group.pass(0, 0), 1);
        RingGroup missed = Scene.ring(2, 1);
        missed.send(0, 0, 1, true);
        missed.pass(0, 0b10);
        Scene.passes(missed, 1);
        checks.due("1 gets it in this pass, the token is not told yet", missed.pass(0, 0), 0);
        checks.due("1 has it", missed.about(1, Scene.FULL), 1);
        checks.due("1 tells the token", missed.pass(1, 0), 1);
    }

    private void allRequested() {
        RingGroup group = Scene.ring(2, 1);
        for (int i = 0; i < 5; i++) {
            group.send(0, 0, i, false);
            group.pass(0, 0b10);
            group.pass(1, 0);
        }
        checks.due("1 has missed five", group.about(1, Scene.FULL), 0);
        group.send(0, 0, 5, false);
        group.pass(0, 0);
        checks.due("all are sent again, with one more, though WINDOW is 1", group.about(1, Scene.FULL), 6);
        RingGroup most = Scene.ring(8, 1);
        most.send(0, 0, 1, false);
        most.pass(0, -1);
        Scene.passes(most, 1, 2, 3, 4, 5, 6, 7, 0);
        for (int node = 1; node < 8; node++) {
            checks.due("by all, " + node, most.about(node, Scene.FULL), 1);
        }
    }

    private void sentAgainByWhoHas() {
        RingGroup group = Scene.ring(3, 1);
        group.send(0, 0, 1, false);
        group.send(1, 0, 2, false);
        group.pass(0, 0b110);
        group.pass(1, 0b101);
        group.pass(2, 0);
        checks.due("2 has neither, so sends neither", group.about(0, Scene.FULL), 1);
        group.pass(0, 0);
        checks.due("0 sends the first", group.about(2, Scene.FULL), 1);
        checks.due("1 has both now", group.about(1, Scene.FULL), 2);
        checks.due("0 has not the second", group.about(0, Scene.FULL), 1);
        group.pass(1, 0);
        checks.due("the second was REQUESTED still: 0", group.about(0, Scene.FULL), 2);
        checks.due("and 2", group.about(2, Scene.FULL), 2);
        RingGroup gap = Scene.ring(3, 1);
        gap.send(0, 0, 1, false);
        gap.send(1, 0, 2, false);
        gap.pass(0, 0b110);
        gap.pass(1, 0b101);
        gap.pass(2, 0);
        gap.pass(0, 0b110);
        checks.due("1 has not the first", gap.about(1, Scene.FULL), 0);
        gap.pass(1, 0);
        checks.due("but sends the second, behind its gap", gap.about(0, Scene.FULL), 2);
    }

    private void requestedNoMore() {
        RingGroup group = Scene.ring(4, 1);
        group.send(0, 0, 1, false);
        group.pass(0, 0b1000);
        Scene.passes(group, 1, 2, 3);
        group.pass(0, 0b1000);
        Scene.passes(group, 1, 2);
        checks.due("0 sent it again, so 1 and 2 do not", group.about(3, Scene.FULL), 0);
        Scene.passes(group, 3, 0);
        checks.due("3 requests it again", group.about(3, Scene.FULL), 1);
        RingGroup nobody = Scene.ring(3, 1);
        nobody.send(0, 0, 1, false);
        nobody.pass(0, 0b100);
        Scene.passes(nobody, 1, 2);
        nobody.pass(0, -1);
        nobody.pass(1, 0);
        checks.due("nor if all missed it", nobody.about(2, Scene.FULL), 0);
    }

    private void atMostWindow() {
        for (int window = 1; window <= 8; window++) {
            for (int pending = 0; pending <= 12; pending++) {
                RingGroup group = Scene.ring(2, window);
                Scene.sends(group, 0, 0, 0, false, pending);
                int sent = Math.min(window, pending);
                String of = pending + " by window " + window;
                checks.due("delivered of " + of, group.pass(0, 0), sent);
                checks.due("left of " + of, group.about(0, Scene.PENDING), pending - sent);
                checks.due("places of " + of, group.about(1, Scene.FULL), sent);
            }
        }
    }

    private void noPlacesLeft() {
        RingGroup group = Scene.ring(2, 8);
        Scene.fill(group, 99, false);
        Scene.sends(group, 0, 3, 500, false, 3);
        checks.due("one place is left", group.pass(0, 0), 1);
        checks.due("two stay PENDING", group.about(0, Scene.PENDING), 2);
        checks.due("the first of the three has it", group.entry(0, 99, 4), 500);
        group.send(1, 4, 600, false);
        checks.due("none is left", group.pass(1, 0), 1);
        checks.due("PENDING", group.about(1, Scene.PENDING), 1);
        checks.due("the token goes on", group.pass(0, 0), 0);
    }

    private void senderHasThem() {
        RingGroup group = Scene.ring(3, 3);
        Scene.sends(group, 0, 0, 0, true, 3);
        group.pass(0, 0b010);
        checks.due("the sender", group.about(0, Scene.FULL), 3);
        checks.due("who missed them", group.about(1, Scene.FULL), 0);
        checks.due("who did not", group.about(2, Scene.FULL), 3);
    }

    private void fullOfItsOwn() {
        RingGroup alone = new RingGroup(2, 2);
        Scene.goes(alone, 0, 1);
        Scene.sends(alone, 0, 5, 50, true, 2);
        checks.due("what it sends in this pass counts", alone.pass(0, 0), 2);
        checks.due("SAFE_TO", alone.about(0, Scene.SAFE_TO), 2);
        RingGroup last = Scene.ring(2, 1);
        Scene.passes(last, 0);
        last.send(1, 5, 50, true);
        last.pass(1, 0);
        checks.due("0 finds the token told by 1", last.pass(0, 0), 1);
    }

    private void leastFullKnown() {
        RingGroup group = Scene.ring(3, 4);
        Scene.sends(group, 0, 0, 0, false, 4);
        Scene.passes(group, 0, 1);
        Scene.sends(group, 2, 0, 0, false, 2);
        group.pass(2, 0b001);
        checks.due("4, 4 and 6 are known", group.about(2, Scene.SAFE_TO), 4);
        Scene.sends(group, 0, 0, 0, false, 1);
        group.pass(0, 0);
        checks.due("0 has a gap at 5", group.about(0, Scene.SAFE_TO), 4);
        RingGroup gone = Scene.ring(3, 1);
        Scene.passes(gone, 0, 1, 2);
        gone.crash(2);
        gone.send(0, 0, 0, true);
        Scene.passes(gone, 0);
        checks.due("a member that crashed counts", gone.pass(1, 0), 0);
        checks.due("SAFE_TO", gone.about(1, Scene.SAFE_TO), 0);
    }

    private void notComeToYet() {
        RingGroup group = Scene.ring(8, 1);
        group.send(0, 0, 0, true);
        for (int node = 0; node < 7; node++) {
            group.pass(node, 0);
            checks.due("it did not come to 7 yet", group.about(node, Scene.SAFE_TO), 0);
        }
        group.pass(7, 0);
        checks.due("it came to all", group.about(7, Scene.SAFE_TO), 1);
    }

    private void safeToGrowsOnly() {
        RingGroup group = Scene.ring(2, 1);
        Scene.passes(group, 0, 1, 0, 1);
        checks.due("0 is not greater than 0", group.about(0, Scene.SAFE_TO), 0);
        group.send(0, 0, 1, false);
        Scene.passes(group, 0, 1, 0, 1, 0, 1);
        checks.due("1 is not greater than 1", group.about(0, Scene.SAFE_TO), 1);
        group.send(0, 0, 2, false);
        group.pass(0, 0b10);
        Scene.passes(group, 1, 0);
        checks.due("1 has not told the token of place 2", group.about(0, Scene.SAFE_TO), 1);
        group.pass(1, 0);
        checks.due("2 is greater", group.about(1, Scene.SAFE_TO), 2);
        checks.due("but 0 learns it in its pass alone", group.about(0, Scene.SAFE_TO), 1);
    }

    private void upToLastGiven() {
        RingGroup last = Scene.ring(2, 8);
        Scene.fill(last, 99, false);
        last.send(0, 0, 100, false);
        last.pass(0, 0b10);
        Scene.passes(last, 1, 0);
        checks.due("the 100th is REQUESTED", last.about(1, Scene.FULL), 100);
        RingGroup early = Scene.ring(3, 1);
        early.send(0, 0, 1, false);
        Scene.passes(early, 0, 1, 2);
        early.send(0, 0, 2, false);
        early.pass(0, 0b100);
        early.pass(1, 0);
        checks.due("no place is REQUESTED before it is given", early.about(2, Scene.FULL), 1);
    }

    private void missingRequested() {
        RingGroup group = Scene.ring(4, 2);
        Scene.sends(group, 0, 0, 0, false, 2);
        group.pass(0, 0b0110);
        group.send(1, 0, 2, false);
        checks.due("1 has not the first place", group.pass(1, 0b0100), 0);
        group.pass(2, 0);
        checks.due("2 has none of the three", group.about(2, Scene.FULL), 0);
        group.pass(3, 0);
        checks.due("3 has all: 1 gets the two it missed", group.about(1, Scene.FULL), 3);
        checks.due("2 gets three", group.about(2, Scene.FULL), 3);
    }

    private void deliversInTurn() {
        RingGroup group = Scene.ring(2, 2);
        Scene.sends(group, 0, 0, 0, false, 1);
        group.pass(0, 0);
        Scene.sends(group, 1, 0, 10, false, 2);
        checks.due("behind DELIVERED 0", group.pass(1, 0b01), 3);
        Scene.sends(group, 0, 0, 20, false, 2);
        checks.due("not behind a gap, its own neither", group.pass(0, 0), 0);
        checks.due("behind DELIVERED 3", group.pass(1, 0), 2);
        checks.due("behind DELIVERED 1, the gap is gone", group.pass(0, 0), 4);
        checks.due("there is no next one", group.pass(1, 0), 0);
        checks.due("in turn", Scene.log(group, 0),
                "r3@1 m1.0.0.0@1 m2.1.0.10@1 m3.1.0.11@1 m4.0.0.20@1 m5.0.0.21@1");
        RingGroup most = Scene.ring(2, 8);
        Scene.fill(most, 100, false);
        checks.due("none is behind the 100th", most.pass(0, 0), 0);
    }

    private void agreedOrSafe() {
        RingGroup group = Scene.ring(2, 4);
        group.send(0, 0, 1, false);
        group.send(0, 0, 2, true);
        Scene.passes(group, 0);
        group.send(1, 0, 3, true);
        group.send(1, 0, 4, false);
        checks.due("SAFE_TO is 2: the agreed, the safe one at it", group.pass(1, 0), 2);
        checks.due("SAFE_TO", group.about(1, Scene.SAFE_TO), 2);
        checks.due("not the safe one behind it, nor the agreed one behind that",
                group.about(1, Scene.DELIVERED), 2);
        checks.due("SAFE_TO is 4", group.pass(0, 0), 3);
        RingGroup agreed = Scene.ring(2, 4);
        Scene.sends(agreed, 0, 0, 0, false, 4);
        checks.due("agreed ones behind SAFE_TO", agreed.pass(0, 0), 4);
        checks.due("SAFE_TO", agreed.about(0, Scene.SAFE_TO), 0);
    }

    private void nextMember() {
        RingGroup group = new RingGroup(8, 1);
        for (int node : new int[] {1, 3, 7}) {
            group.part(node, 2);
        }
        group.gather(3);
        for (int node : new int[] {1, 3, 7, 1, 3, 7}) {
            checks.due("holds", group.about(node, Scene.HOLDS), 1);
            group.pass(node, 0);
        }
        RingGroup alone = new RingGroup(2, 1);
        Scene.goes(alone, 1, 1);
        Scene.passes(alone, 1, 1);
        checks.due("behind the only one itself", alone.about(1, Scene.HOLDS), 1);
        RingGroup all = Scene.ring(8, 1);
        Scene.passes(all, 0, 1, 2, 3, 4, 5, 6, 7);
        checks.due("behind the last the first", all.about(0, Scene.HOLDS), 1);
    }

    private void nobodyHolds(String what, RingGroup group, int nodes) {
        for (int node = 0; node < nodes; node++) {
            checks.due(what, group.about(node, Scene.HOLDS), 0);
        }
    }

    private void nextNotUp() {
        RingGroup next = Scene.ring(3, 1);
        next.crash(1);
        next.pass(0, 0);
        nobodyHolds("next is not up", next, 3);
        RingGroup first = Scene.ring(3, 1);
        Scene.passes(first, 0, 1);
        first.crash(0);
        first.pass(2, 0);
        nobodyHolds("the first is not up", first, 3);
        RingGroup other = Scene.ring(3, 1);
        other.crash(2);
        other.pass(0, 0);
        checks.due("another one does not matter", other.about(1, Scene.HOLDS), 1);
    }

    private void nextInAnotherGroup() {
        RingGroup parted = Scene.ring(3, 1);
        parted.part(1, 1);
        parted.pass(0, 0);
        nobodyHolds("next has gone", parted, 3);
        RingGroup holder = Scene.ring(3, 1);
        holder.part(0, 1);
        holder.pass(0, 0);
        nobodyHolds("the one that passes has gone", holder, 3);
        RingGroup both = Scene.ring(3, 1);
        both.part(0, 6);
        both.part(1, 6);
        both.pass(0, 0);
        checks.due("both have gone to one", both.about(1, Scene.HOLDS), 1);
        RingGroup back = Scene.ring(3, 1);
        back.part(1, 1);
        back.part(1, 0);
        back.pass(0, 0);
        checks.due("next is back", back.about(1, Scene.HOLDS), 1);
    }

    private void nextOfAnotherRing() {
        RingGroup none = Scene.ring(3, 1);
        Scene.reborn(none, 1);
        none.pass(0, 0);
        nobodyHolds("next is of none", none, 3);
        RingGroup other = Scene.ring(3, 1);
        Scene.goes(other, 1, 1);
        other.part(1, 0);
        other.pass(0, 0);
        checks.due("next is of another: 0", other.about(0, Scene.HOLDS), 0);
        checks.due("2", other.about(2, Scene.HOLDS), 0);
        other.send(1, 0, 1, false);
        checks.due("it has the token of its own alone", other.pass(1, 0), 1);
    }

    private void tokenIsLost() {
        RingGroup group = Scene.ring(3, 1);
        group.part(1, 1);
        group.send(0, 0, 1, false);
        checks.due("the pass itself is whole", group.pass(0, 0), 1);
        checks.due("what it sent came", group.about(2, Scene.FULL), 1);
        group.part(1, 0);
        nobodyHolds("it does not come back", group, 3);
        for (int node = 0; node < 3; node++) {
            int asked = node;
            checks.badState("nobody passes", () -> group.pass(asked, 0));
        }
        checks.due("till a new ring", group.gather(1), 2);
    }

    private void comesToMembers() {
        RingGroup group = new RingGroup(8, 1);
        for (int node : new int[] {2, 5, 7}) {
            group.part(node, 1);
        }
        group.gather(7);
        for (int node : new int[] {2, 5, 7}) {
            group.part(node, 0);
        }
        group.send(2, 0, 1, false);
        group.pass(2, 0);
        for (int node = 0; node < 8; node++) {
            checks.due("has it: " + node, group.about(node, Scene.FULL), node == 2 || node == 5 || node == 7 ? 1 : 0);
        }
        RingGroup itself = Scene.ring(2, 1);
        itself.send(0, 0, 1, false);
        itself.pass(0, 0b01);
        checks.due("the node itself has it, told to miss it or not", itself.about(0, Scene.FULL), 1);
    }

    private static RingGroup sentByZero(RingGroup group) {
        group.send(0, 0, 1, false);
        group.pass(0, 0);
        return group;
    }

    private void comesToThoseUp() {
        RingGroup group = Scene.ring(4, 1);
        group.crash(2);
        sentByZero(group);
        checks.due("up", group.about(1, Scene.FULL), 1);
        checks.due("behind the one not up", group.about(3, Scene.FULL), 1);
        group.restart(2);
        checks.due("not up then", group.about(2, Scene.FULL), 0);
        group.gather(0);
        checks.due("nor does it tell any of it", Scene.log(group, 2), "r15@1 r15@2");
    }

    private void comesToItsGroup() {
        RingGroup group = Scene.ring(4, 1);
        group.part(2, 7);
        sentByZero(group);
        group.part(2, 0);
        checks.due("elsewhere then", group.about(2, Scene.FULL), 0);
        checks.due("here", group.about(3, Scene.FULL), 1);
        RingGroup moved = Scene.ring(4, 1);
        moved.part(0, 7);
        moved.part(3, 7);
        sentByZero(moved);
        checks.due("of the sender's group", moved.about(3, Scene.FULL), 1);
        checks.due("of the sender's old group", moved.about(2, Scene.FULL), 0);
    }

    private void comesToItsRing() {
        RingGroup group = Scene.ring(4, 1);
        Scene.goes(group, 2, 7);
        group.part(2, 0);
        Scene.reborn(group, 3);
        sentByZero(group);
        checks.due("of the ring", group.about(1, Scene.FULL), 1);
        checks.due("of another ring", group.about(2, Scene.FULL), 0);
        checks.due("of none", group.about(3, Scene.FULL), 0);
        RingGroup same = new RingGroup(3, 1);
        same.part(2, 7);
        same.gather(0);
        same.gather(2);
        same.part(2, 0);
        checks.due("another ring may have the same NUMBER", same.about(2, Scene.NUMBER), same.about(0, Scene.NUMBER));
        sentByZero(same);
        checks.due("of that ring", same.about(2, Scene.FULL), 0);
    }

    private void comesNotToThoseMissing() {
        for (int misses = 0; misses < 16; misses++) {
            RingGroup group = Scene.ring(4, 1);
            group.send(0, 0, 1, false);
            group.pass(0, misses);
            for (int node = 1; node < 4; node++) {
                checks.due(misses + " at " + node, group.about(node, Scene.FULL), 1 - (misses >> node & 1));
            }
        }
        RingGroup nobody = Scene.ring(2, 1);
        nobody.send(0, 0, 1, false);
        nobody.pass(0, ~0b10);
        checks.due("bits of no node", nobody.about(1, Scene.FULL), 1);
        RingGroup everybody = Scene.ring(8, 1);
        everybody.send(0, 0, 1, false);
        checks.due("all bits: the sender delivers", everybody.pass(0, -1), 1);
        checks.due("the others miss it", everybody.about(7, Scene.FULL), 0);
    }

    private void missesOnePass() {
        RingGroup group = Scene.ring(3, 1);
        group.send(0, 0, 1, false);
        group.pass(0, 0b100);
        group.send(1, 0, 2, false);
        Scene.passes(group, 1, 2);
        checks.due("2 missed the first", group.about(2, Scene.FULL), 0);
        group.pass(0, 0);
        checks.due("but neither the second, nor the first when sent again", group.about(2, Scene.FULL), 2);
    }
}
