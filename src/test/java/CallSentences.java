/** What the document says of each call: promises 1 to 12. */
final class CallSentences {
    private final Checks checks;

    CallSentences(Checks checks) {
        this.checks = checks;
    }

    void hold(Sentences s) {
        holdMaking(s);
        holdRing(s);
        holdNodes(s);
        holdAbout(s);
        holdAsking(s);
    }

    private void holdMaking(Sentences s) {
        s.in("Promise 1");
        s.hold("N the nearest of 2 .. 8,", this::nearestNodes);
        s.hold("WINDOW of 1 .. 8.", this::nearestWindow);
        s.hold("All UP.", this::allUp);
        s.in("Promise 2");
        s.hold("A message more is PENDING: how many are.", this::howManyPending);
        s.hold("IndexOutOfBoundsException: no such node, key;", this::sendOutOfBounds);
        s.hold("IllegalStateException: it is not UP,", this::sendNotUp);
        s.hold("or there are 12.", this::sendTwelve);
    }

    private void holdRing(Sentences s) {
        s.in("Promise 3");
        s.hold("A PASS: how many messages it delivered.", this::howManyDelivered);
        s.hold("Who MISSES are bits of nodes.", this::bitsOfNodes);
        s.hold("IndexOutOfBoundsException: no such node;", this::passOutOfBounds);
        s.hold("IllegalStateException: it does not HOLD a token.", this::passWithoutToken);
        s.in("Promise 4");
        s.hold("GATHERED: the NUMBER of the new ring;", this::numberOfNewRing);
        s.hold("0 if nothing happened.", this::zeroIfNothing);
        s.hold("IndexOutOfBoundsException;", this::gatherOutOfBounds);
        s.hold("IllegalStateException: it is not UP.", this::gatherNotUp);
    }

    private void holdNodes(Sentences s) {
        s.in("Promise 5");
        s.hold("A node goes to a GROUP.", this::goesToGroup);
        s.hold("IndexOutOfBoundsException;", this::partOutOfBounds);
        s.hold("IllegalArgumentException: group is not 0 .. 7.", this::partToNoGroup);
        s.in("Promise 6");
        s.hold("A node crashes: it is not UP, of no RING, has nothing PENDING;", this::crashes);
        s.hold("a token that it HOLDS is lost.", this::crashLosesToken);
        s.hold("IndexOutOfBoundsException;", this::crashOutOfBounds);
        s.hold("IllegalStateException: it is not UP.", this::crashNotUp);
        s.in("Promise 7");
        s.hold("It is UP again (in its GROUP).", this::upAgain);
        s.hold("IndexOutOfBoundsException;", this::restartOutOfBounds);
        s.hold("IllegalStateException: it is UP.", this::restartUp);
    }

    private void holdAbout(Sentences s) {
        s.in("Promise 8");
        s.hold("Of a node: 1 if it is UP (what = 0),", this::aboutUp);
        s.hold("its GROUP (1),", this::aboutGroup);
        s.hold("its RING's NUMBER (2) and MEMBERS (3; 0 without a ring),", this::aboutRing);
        s.hold("PENDING (4),", this::aboutPending);
        s.hold("FULL (5),", this::aboutFull);
        s.hold("DELIVERED (6),", this::aboutDelivered);
        s.hold("SAFE_TO (7),", this::aboutSafeTo);
        s.hold("APPLIED (8),", this::aboutApplied);
        s.hold("VOTE's NUMBER (9) and MEMBERS (10),", this::aboutVote);
        s.hold("HIGHEST (11),", this::aboutHighest);
        s.hold("1 if it HOLDS a token (12),", this::aboutToken);
        s.hold("how much it logged ever (13).", this::aboutLogged);
        s.hold("(5 .. 7 are 0 without a ring.)", this::zeroWithoutRing);
        s.hold("IndexOutOfBoundsException;", this::aboutOutOfBounds);
        s.hold("IllegalArgumentException: another what.", this::aboutAnotherWhat);
    }

    private void holdAsking(Sentences s) {
        s.in("Promise 9");
        s.hold("The value of a key in a node's TABLE.", this::valueOfKey);
        s.hold("IndexOutOfBoundsException.", this::tableOutOfBounds);
        s.in("Promise 10");
        s.hold("A node's MARK.", this::markOfNode);
        s.hold("IndexOutOfBoundsException.", this::markOutOfBounds);
        s.in("Promise 11");
        s.hold("Entry k of a node's LOG (of the latest 100, the oldest of them being 0):", this::oldestIsZero);
        s.hold("its kind (what = 0),", this::entryKind);
        s.hold("place or MEMBERS (1),", this::entryPlaceOrMembers);
        s.hold("sender (2), key (3), value (4; 2 to 4 are 0 but for messages),", this::entryOfMessage);
        s.hold("the ring's NUMBER (5).", this::entryNumber);
        s.hold("IndexOutOfBoundsException;", this::entryOutOfBounds);
        s.hold("IllegalArgumentException: another what.", this::entryAnotherWhat);
        s.in("Promise 12");
        s.hold("Whether the node's ring is PRIMARY: its VOTE's NUMBER is the ring's", this::ringIsPrimary);
        s.hold("(false without a ring).", this::withoutRingNotPrimary);
        s.hold("IndexOutOfBoundsException.", this::primaryOutOfBounds);
    }

    private interface OfNode {
        void call(int node);
    }

    private void noSuchNodes(int nodes, OfNode of) {
        for (int node : new int[] {Integer.MIN_VALUE, -2, -1, nodes, nodes + 1, 8, 31, 32, Integer.MAX_VALUE}) {
            checks.outOfBounds("node " + node + " of " + nodes, () -> of.call(node));
        }
    }

    private void nearestNodes() {
        int[] asked = {Integer.MIN_VALUE, -8, -1, 0, 1, 2, 3, 4, 5, 6, 7, 8, 9, 10, Integer.MAX_VALUE};
        int[] nearest = {2, 2, 2, 2, 2, 2, 3, 4, 5, 6, 7, 8, 8, 8, 8};
        for (int i = 0; i < asked.length; i++) {
            RingGroup group = new RingGroup(asked[i], 4);
            int behind = nearest[i];
            checks.due("the last of " + asked[i], group.about(behind - 1, Scene.UP), 1);
            checks.outOfBounds("behind the last of " + asked[i], () -> group.about(behind, Scene.UP));
            group.gather(0);
            checks.due("all of " + asked[i], group.about(0, Scene.MEMBERS), (1 << behind) - 1);
        }
    }

    private void nearestWindow() {
        int[] asked = {Integer.MIN_VALUE, -8, -1, 0, 1, 2, 3, 4, 5, 6, 7, 8, 9, 12, Integer.MAX_VALUE};
        int[] nearest = {1, 1, 1, 1, 1, 2, 3, 4, 5, 6, 7, 8, 8, 8, 8};
        for (int i = 0; i < asked.length; i++) {
            RingGroup group = Scene.ring(3, asked[i]);
            Scene.sends(group, 0, 0, 0, false, 12);
            checks.due("of " + asked[i], group.pass(0, 0), nearest[i]);
        }
    }

    private void allUp() {
        for (int nodes = 2; nodes <= 8; nodes++) {
            RingGroup group = new RingGroup(nodes, 1);
            for (int node = 0; node < nodes; node++) {
                int asked = node;
                checks.due("about " + node, group.about(node, Scene.UP), 1);
                checks.badState("no restart of " + node, () -> group.restart(asked));
            }
        }
    }

    private void howManyPending() {
        RingGroup group = Scene.ring(3, 2);
        checks.due("the first", group.send(0, 0, 0, true), 1);
        checks.due("the second", group.send(0, 0, 0, false), 2);
        checks.due("another node's first", group.send(1, 0, 0, false), 1);
        checks.due("the third", group.send(0, 0, 0, false), 3);
        group.pass(0, 0);
        checks.due("two went", group.send(0, 0, 0, false), 2);
        RingGroup none = new RingGroup(2, 1);
        checks.due("without a ring", none.send(1, 0, 0, true), 1);
        checks.due("nothing is sent yet", none.about(1, Scene.FULL), 0);
        none.gather(0);
        Scene.passes(none, 0, 1);
        checks.due("it is sent in the ring", none.about(0, Scene.FULL), 1);
    }

    private void sendOutOfBounds() {
        RingGroup group = Scene.ring(3, 1);
        noSuchNodes(3, node -> group.send(node, 0, 0, true));
        for (int key : new int[] {Integer.MIN_VALUE, -1, 16, 17, Integer.MAX_VALUE}) {
            checks.outOfBounds("key " + key, () -> group.send(0, key, 0, true));
        }
        checks.due("the first key", group.send(2, 0, 0, true), 1);
        checks.due("the last key", group.send(2, 15, 0, true), 2);
    }

    private void sendNotUp() {
        RingGroup group = Scene.ring(3, 1);
        group.crash(1);
        checks.badState("crashed", () -> group.send(1, 0, 0, true));
        group.restart(1);
        checks.due("up again", group.send(1, 0, 0, true), 1);
    }

    private void sendTwelve() {
        RingGroup group = Scene.ring(3, 1);
        Scene.sends(group, 0, 0, 0, true, 11);
        checks.due("the twelfth", group.send(0, 0, 0, true), 12);
        checks.badState("one more", () -> group.send(0, 0, 0, true));
        checks.due("there are 12 still", group.about(0, Scene.PENDING), 12);
        group.pass(0, 0);
        checks.due("one went", group.send(0, 0, 0, true), 12);
        checks.badState("one more again", () -> group.send(0, 0, 0, true));
    }

    private void howManyDelivered() {
        RingGroup group = Scene.ring(2, 8);
        checks.due("none", group.pass(0, 0), 0);
        Scene.sends(group, 1, 0, 0, false, 8);
        checks.due("its own", group.pass(1, 0), 8);
        Scene.sends(group, 0, 0, 0, true, 8);
        checks.due("another's, its own are not safe yet", group.pass(0, 0), 8);
        checks.due("safe ones", group.pass(1, 0), 8);
        Scene.sends(group, 0, 0, 0, false, 1);
        checks.due("safe ones and one behind them", group.pass(0, 0), 9);
    }

    private void bitsOfNodes() {
        RingGroup group = Scene.ring(8, 1);
        group.send(0, 0, 0, false);
        group.pass(0, 0b10000010);
        for (int node = 0; node < 8; node++) {
            checks.due("has it: " + node, group.about(node, Scene.FULL), node == 1 || node == 7 ? 0 : 1);
        }
        for (int misses : new int[] {0, 1, 4, 256, 1 << 30, Integer.MIN_VALUE, -3}) {
            RingGroup two = Scene.ring(2, 1);
            two.send(0, 0, 0, false);
            checks.due("delivered, told " + misses, two.pass(0, misses), 1);
            checks.due("1 has it, told " + misses, two.about(1, Scene.FULL), 1);
        }
    }

    private void passOutOfBounds() {
        RingGroup group = Scene.ring(3, 1);
        noSuchNodes(3, node -> group.pass(node, 0));
        noSuchNodes(3, node -> new RingGroup(3, 1).pass(node, 0));
    }

    private void passWithoutToken() {
        RingGroup group = new RingGroup(3, 1);
        checks.badState("of no ring", () -> group.pass(0, 0));
        group.gather(0);
        checks.badState("another one holds it", () -> group.pass(2, 0));
        group.crash(0);
        checks.badState("crashed with it", () -> group.pass(0, 0));
        group.restart(0);
        checks.badState("up again", () -> group.pass(0, 0));
        checks.badState("it is lost", () -> group.pass(1, 0));
    }

    private void numberOfNewRing() {
        RingGroup group = new RingGroup(3, 1);
        checks.due("the first", group.gather(2), 1);
        checks.due("the second", Scene.goes(group, 2, 1), 2);
        checks.due("another second", group.gather(1), 2);
        checks.due("the third", Scene.goes(group, 2, 0), 3);
        checks.due("as about tells", group.about(0, Scene.NUMBER), 3);
    }

    private void zeroIfNothing() {
        RingGroup group = Scene.ring(3, 1);
        checks.due("just gathered", group.gather(0), 0);
        checks.due("by another", group.gather(2), 0);
        checks.due("the ring stays", group.about(2, Scene.NUMBER), 1);
        checks.due("nothing is told", group.about(2, Scene.LOGGED), 1);
    }

    private void gatherOutOfBounds() {
        noSuchNodes(3, node -> new RingGroup(3, 1).gather(node));
    }

    private void gatherNotUp() {
        RingGroup group = new RingGroup(3, 1);
        group.crash(2);
        checks.badState("crashed", () -> group.gather(2));
        checks.due("another gathers", group.gather(0), 1);
        checks.badState("still", () -> group.gather(2));
    }

    private void goesToGroup() {
        RingGroup group = Scene.ring(3, 1);
        for (int to : new int[] {0, 7, 7, 1, 0}) {
            group.part(1, to);
            checks.due("GROUP", group.about(1, Scene.GROUP), to);
            checks.due("the others stay", group.about(0, Scene.GROUP), 0);
            checks.due("it is of its ring still", group.about(1, Scene.NUMBER), 1);
        }
        group.crash(1);
        group.part(1, 5);
        checks.due("not up, it goes as well", group.about(1, Scene.GROUP), 5);
    }

    private void partOutOfBounds() {
        RingGroup group = new RingGroup(3, 1);
        noSuchNodes(3, node -> group.part(node, 0));
    }

    private void partToNoGroup() {
        RingGroup group = new RingGroup(3, 1);
        group.part(0, 3);
        for (int to : new int[] {Integer.MIN_VALUE, -1, 8, 9, Integer.MAX_VALUE}) {
            checks.badArgument("group " + to, () -> group.part(0, to));
            checks.due("GROUP stays", group.about(0, Scene.GROUP), 3);
        }
    }

    private void crashes() {
        RingGroup group = Scene.ring(3, 1);
        Scene.sends(group, 1, 0, 0, true, 12);
        group.crash(1);
        checks.due("UP", group.about(1, Scene.UP), 0);
        checks.due("RING", group.about(1, Scene.NUMBER), 0);
        checks.due("MEMBERS", group.about(1, Scene.MEMBERS), 0);
        checks.due("PENDING", group.about(1, Scene.PENDING), 0);
        checks.due("the others are of the ring still", group.about(0, Scene.MEMBERS), 7);
        group.restart(1);
        checks.due("nothing comes back", group.send(1, 0, 0, true), 1);
        RingGroup fresh = new RingGroup(2, 1);
        fresh.crash(0);
        checks.due("one of no ring crashes too", fresh.about(0, Scene.UP), 0);
    }

    private void crashLosesToken() {
        RingGroup holder = Scene.ring(3, 1);
        holder.crash(0);
        for (int node = 0; node < 3; node++) {
            checks.due("lost", holder.about(node, Scene.HOLDS), 0);
        }
        RingGroup other = Scene.ring(3, 1);
        other.crash(1);
        checks.due("another's is not", other.about(0, Scene.HOLDS), 1);
        RingGroup two = Scene.ring(3, 1);
        Scene.goes(two, 2, 1);
        two.crash(2);
        checks.due("nor one of another ring", two.about(0, Scene.HOLDS), 1);
    }

    private void crashOutOfBounds() {
        RingGroup group = new RingGroup(3, 1);
        noSuchNodes(3, group::crash);
    }

    private void crashNotUp() {
        RingGroup group = new RingGroup(3, 1);
        group.crash(0);
        checks.badState("twice", () -> group.crash(0));
        group.restart(0);
        group.crash(0);
        checks.due("behind a restart", group.about(0, Scene.UP), 0);
    }

    private void upAgain() {
        RingGroup group = Scene.ring(3, 1);
        group.part(2, 7);
        group.crash(2);
        group.restart(2);
        checks.due("UP", group.about(2, Scene.UP), 1);
        checks.due("GROUP", group.about(2, Scene.GROUP), 7);
        checks.due("of no RING", group.about(2, Scene.NUMBER), 0);
        checks.due("it gathers there", group.gather(2), 2);
        checks.due("alone", group.about(2, Scene.MEMBERS), 4);
    }

    private void restartOutOfBounds() {
        RingGroup group = new RingGroup(3, 1);
        noSuchNodes(3, group::restart);
    }

    private void restartUp() {
        RingGroup group = Scene.ring(3, 1);
        group.send(0, 0, 0, true);
        checks.badState("never crashed", () -> group.restart(0));
        checks.due("it is as it was", group.about(0, Scene.PENDING), 1);
        Scene.reborn(group, 0);
        checks.badState("twice", () -> group.restart(0));
    }

    private void aboutUp() {
        RingGroup group = new RingGroup(2, 1);
        checks.due("up", group.about(1, 0), 1);
        group.crash(1);
        checks.due("not up", group.about(1, 0), 0);
        checks.due("the other", group.about(0, 0), 1);
    }

    private void aboutGroup() {
        RingGroup group = new RingGroup(2, 1);
        checks.due("at first", group.about(1, 1), 0);
        group.part(1, 7);
        checks.due("the greatest", group.about(1, 1), 7);
    }

    private void aboutRing() {
        RingGroup group = new RingGroup(8, 1);
        checks.due("NUMBER without one", group.about(7, 2), 0);
        checks.due("MEMBERS without one", group.about(7, 3), 0);
        group.gather(0);
        checks.due("NUMBER", group.about(7, 2), 1);
        checks.due("MEMBERS", group.about(7, 3), 255);
        Scene.goes(group, 7, 1);
        checks.due("NUMBER of the next", group.about(7, 2), 2);
        checks.due("MEMBERS of the next", group.about(7, 3), 128);
        group.crash(7);
        checks.due("NUMBER, crashed", group.about(7, 2), 0);
        checks.due("MEMBERS, crashed", group.about(7, 3), 0);
    }

    private void aboutPending() {
        RingGroup group = Scene.ring(2, 8);
        checks.due("none", group.about(0, 4), 0);
        Scene.sends(group, 0, 0, 0, true, 12);
        checks.due("12", group.about(0, 4), 12);
        group.pass(0, 0);
        checks.due("without those that got places", group.about(0, 4), 4);
    }

    private void aboutFull() {
        RingGroup group = Scene.ring(2, 8);
        checks.due("none", group.about(1, 5), 0);
        Scene.fill(group, 100, true);
        checks.due("100", group.about(1, 5), 100);
        RingGroup gap = Scene.ring(2, 1);
        gap.send(0, 0, 0, false);
        gap.pass(0, 0b10);
        gap.send(1, 0, 0, false);
        gap.pass(1, 0);
        checks.due("the second alone", gap.about(1, 5), 0);
        checks.due("both, delivered or not", gap.about(0, 5), 2);
    }

    private void aboutDelivered() {
        RingGroup group = Scene.ring(2, 8);
        checks.due("none", group.about(1, 6), 0);
        Scene.fill(group, 100, true);
        checks.due("100", group.about(1, 6), 100);
        checks.due("a pass behind", group.about(0, 6), 96);
    }

    private void aboutSafeTo() {
        RingGroup group = Scene.ring(2, 8);
        checks.due("none", group.about(1, 7), 0);
        Scene.fill(group, 100, false);
        checks.due("100", group.about(1, 7), 100);
        checks.due("a pass behind", group.about(0, 7), 96);
    }

    private void aboutApplied() {
        RingGroup group = Scene.ring(2, 8);
        checks.due("none", group.about(1, 8), 0);
        Scene.fill(group, 50, true);
        Scene.fill(group, 50, false);
        checks.due("50 of 100", group.about(1, 8), 50);
    }

    private void aboutVote() {
        RingGroup group = new RingGroup(8, 1);
        checks.due("NUMBER at first", group.about(7, 9), 0);
        checks.due("MEMBERS at first", group.about(7, 10), 255);
        group.part(0, 1);
        group.gather(7);
        checks.due("NUMBER", group.about(7, 9), 1);
        checks.due("MEMBERS", group.about(7, 10), 254);
        checks.due("NUMBER of another", group.about(0, 9), 0);
        checks.due("MEMBERS of another", group.about(0, 10), 255);
    }

    private void aboutHighest() {
        RingGroup group = new RingGroup(2, 1);
        checks.due("none", group.about(1, 11), 0);
        group.gather(1);
        Scene.goes(group, 1, 1);
        checks.due("two rings", group.about(1, 11), 2);
        checks.due("one ring", group.about(0, 11), 1);
    }

    private void aboutToken() {
        RingGroup group = new RingGroup(2, 1);
        checks.due("of no ring", group.about(0, 12), 0);
        group.gather(1);
        checks.due("holds", group.about(0, 12), 1);
        checks.due("does not", group.about(1, 12), 0);
        group.pass(0, 0);
        checks.due("holds no more", group.about(0, 12), 0);
        checks.due("does now", group.about(1, 12), 1);
    }

    private void aboutLogged() {
        RingGroup group = new RingGroup(2, 8);
        checks.due("nothing", group.about(1, 13), 0);
        group.gather(0);
        Scene.fill(group, 99, false);
        checks.due("100", group.about(1, 13), 100);
        Scene.fill(group, 1, false);
        checks.due("101", group.about(1, 13), 101);
        group.crash(0);
        group.gather(1);
        checks.due("TRANSITION and RING too", group.about(1, 13), 103);
        group.crash(1);
        checks.due("ever", group.about(1, 13), 103);
    }

    private void zeroWithoutRing() {
        RingGroup group = Scene.ring(2, 1);
        group.send(0, 0, 0, true);
        Scene.passes(group, 0, 1, 0);
        for (int what = 5; what <= 7; what++) {
            checks.due("with a ring " + what, group.about(0, what), 1);
        }
        group.crash(0);
        for (int what = 5; what <= 7; what++) {
            checks.due("crashed " + what, group.about(0, what), 0);
            checks.due("the other is of the ring " + what, group.about(1, what), 1);
        }
        group.restart(0);
        for (int what = 5; what <= 7; what++) {
            checks.due("up again " + what, group.about(0, what), 0);
        }
    }

    private void aboutOutOfBounds() {
        RingGroup group = new RingGroup(3, 1);
        for (int what = 0; what <= 13; what++) {
            int asked = what;
            noSuchNodes(3, node -> group.about(node, asked));
        }
    }

    private void aboutAnotherWhat() {
        RingGroup group = new RingGroup(3, 1);
        for (int what : new int[] {Integer.MIN_VALUE, -1, 14, 15, Integer.MAX_VALUE}) {
            checks.badArgument("what " + what, () -> group.about(0, what));
        }
        checks.due("the first", group.about(0, 0), 1);
        checks.due("the last", group.about(0, 13), 0);
    }

    private void valueOfKey() {
        RingGroup group = Scene.ring(2, 8);
        checks.due("at first", group.table(0, 15), 0);
        group.send(0, 0, -1, true);
        group.send(0, 15, 1L << 40, true);
        Scene.passes(group, 0, 1);
        checks.due("the first", group.table(1, 0), -1);
        checks.due("the last", group.table(1, 15), 1L << 40);
        checks.due("between", group.table(1, 1), 0);
        checks.due("the other node's", group.table(0, 0), 0);
    }

    private void tableOutOfBounds() {
        RingGroup group = new RingGroup(3, 1);
        noSuchNodes(3, node -> group.table(node, 0));
        for (int key : new int[] {Integer.MIN_VALUE, -1, 16, 17, Integer.MAX_VALUE}) {
            checks.outOfBounds("key " + key, () -> group.table(0, key));
        }
    }

    private void markOfNode() {
        RingGroup group = Scene.ring(2, 8);
        checks.due("at first", group.mark(0), 0);
        group.send(0, 1, 2, true);
        Scene.passes(group, 0, 1);
        checks.due("of one that applied", group.mark(1), 19);
        checks.due("of one that did not", group.mark(0), 0);
    }

    private void markOutOfBounds() {
        RingGroup group = new RingGroup(3, 1);
        noSuchNodes(3, group::mark);
    }

    private void oldestIsZero() {
        RingGroup group = Scene.ring(2, 8);
        Scene.fill(group, 99, false);
        checks.due("of 100 the oldest is the RING", group.entry(1, 0, 0), 3);
        checks.due("the latest", group.entry(1, 99, 1), 99);
        Scene.fill(group, 1, false);
        checks.due("of 101 it is the first message", group.entry(1, 0, 1), 1);
        checks.due("the latest", group.entry(1, 99, 1), 100);
        group.crash(0);
        group.gather(1);
        checks.due("of 103 it is the third", group.entry(1, 0, 1), 3);
        checks.due("the latest is a RING", group.entry(1, 99, 0), 3);
    }

    /** Of 2: a RING, a message at place 2 behind one at place 1, a TRANSITION, a RING. */
    private static RingGroup logged() {
        RingGroup group = Scene.ring(3, 1);
        group.send(1, 6, -60, false);
        group.send(2, 7, 70, false);
        Scene.passes(group, 0, 1, 2);
        Scene.goes(group, 2, 4);
        return group;
    }

    private void entryPart(int what, long... want) {
        RingGroup group = logged();
        for (int k = 0; k < want.length; k++) {
            checks.due("entry " + k + " of 2, " + what, group.entry(2, k, what), want[k]);
        }
    }

    private void entryKind() {
        entryPart(0, RingGroup.RING, RingGroup.MESSAGE, RingGroup.MESSAGE, RingGroup.TRANSITION, RingGroup.RING);
        checks.due("MESSAGE", RingGroup.MESSAGE, 1);
        checks.due("TRANSITION", RingGroup.TRANSITION, 2);
        checks.due("RING", RingGroup.RING, 3);
    }

    private void entryPlaceOrMembers() {
        entryPart(1, 7, 1, 2, 4, 4);
    }

    private void entryOfMessage() {
        entryPart(2, 0, 1, 2, 0, 0);
        entryPart(3, 0, 6, 7, 0, 0);
        entryPart(4, 0, -60, 70, 0, 0);
        RingGroup round = Scene.ring(2, 8);
        Scene.fill(round, 99, false);
        round.send(0, 15, -1, false);
        Scene.passes(round, 0, 1);
        round.crash(0);
        round.gather(1);
        for (int what = 2; what <= 4; what++) {
            checks.due("a TRANSITION where a message stood " + what, round.entry(1, 98, what), 0);
            checks.due("a RING where one stood " + what, round.entry(1, 99, what), 0);
        }
    }

    private void entryNumber() {
        entryPart(5, 1, 1, 1, 1, 2);
    }

    private void entryOutOfBounds() {
        RingGroup group = logged();
        noSuchNodes(3, node -> group.entry(node, 0, 0));
        for (int k : new int[] {Integer.MIN_VALUE, -1, 5, 6, 99, 100, Integer.MAX_VALUE}) {
            checks.outOfBounds("entry " + k + " of five", () -> group.entry(2, k, 0));
        }
        RingGroup empty = new RingGroup(2, 1);
        checks.outOfBounds("entry 0 of none", () -> empty.entry(0, 0, 0));
        RingGroup full = Scene.ring(2, 8);
        Scene.fill(full, 100, false);
        checks.outOfBounds("entry 100 of 101", () -> full.entry(1, 100, 0));
        checks.due("entry 99 of 101", full.entry(1, 99, 0), 1);
    }

    private void entryAnotherWhat() {
        RingGroup group = logged();
        for (int what : new int[] {Integer.MIN_VALUE, -1, 6, 7, Integer.MAX_VALUE}) {
            checks.badArgument("what " + what, () -> group.entry(2, 0, what));
            checks.badArgument("what " + what + " of a message", () -> group.entry(2, 1, what));
        }
    }

    private void ringIsPrimary() {
        RingGroup group = new RingGroup(3, 1);
        group.gather(0);
        checks.due("all", group.primary(2), true);
        group.part(2, 1);
        checks.due("not of the group, but of the ring still", group.primary(2), true);
        group.gather(2);
        checks.due("one of three", group.primary(2), false);
        group.gather(0);
        checks.due("two of three", group.primary(0), true);
        checks.due("a ring of the same NUMBER that is not", group.primary(2), false);
        checks.due("the same NUMBER", group.about(2, Scene.NUMBER), group.about(0, Scene.NUMBER));
        RingGroup voters = new RingGroup(6, 1);
        gatherAs(voters, 1, 0, 1, 2, 3);
        gatherAs(voters, 2, 0, 1, 2);
        gatherAs(voters, 3, 1, 2, 3, 4, 5);
        checks.due("two of three", voters.primary(5), true);
        gatherAs(voters, 4, 0, 1, 2);
        checks.due("MEMBERS as 0's VOTE's", voters.about(0, Scene.VOTERS), voters.about(0, Scene.MEMBERS));
        checks.due("but another NUMBER: two of five", voters.primary(0), false);
    }

    private static void gatherAs(RingGroup group, int to, int... nodes) {
        for (int node : nodes) {
            group.part(node, to);
        }
        group.gather(nodes[0]);
    }

    private void withoutRingNotPrimary() {
        RingGroup group = new RingGroup(3, 1);
        checks.due("VOTE's NUMBER 0, no RING (0)", group.primary(0), false);
        group.gather(0);
        group.crash(0);
        checks.due("crashed", group.primary(0), false);
        group.restart(0);
        checks.due("up again", group.primary(0), false);
        checks.due("the others are", group.primary(1), true);
    }

    private void primaryOutOfBounds() {
        RingGroup group = new RingGroup(3, 1);
        noSuchNodes(3, group::primary);
    }
}
