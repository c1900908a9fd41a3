/** What the document says of APPLIED messages, of the LOG and of calls that throw. */
final class ApplyAndLogSentences {
    private final Checks checks;

    ApplyAndLogSentences(Checks checks) {
        this.checks = checks;
    }

    void hold(Sentences s) {
        s.in("Terms");
        s.hold("A SAFE message is APPLIED to a node's TABLE (the key's value becomes its value;", this::keysValue);
        s.hold("APPLIED grows by 1;", this::appliedGrows);
        s.hold("MARK becomes MARK * 31 + KEY * 17 + VALUE;", this::markWrapsAround);
        s.hold("DONE becomes its place)", this::doneBecomesPlace);
        s.hold("when the node delivers it in a PASS,", this::inPass);
        s.hold("or when it is GATHERED before the TRANSITION,", this::beforeTransition);
        s.hold("and its VOTE's NUMBER is that of the ring.", this::votedRingAlone);
        s.hold("(Behind the TRANSITION it is not APPLIED by that.)", this::notBehindTransition);
        s.hold("The LOG of a node has what it delivered and told, the latest 100.", this::latestHundred);
        s.hold("Of a message: 1, place, sender, key, value;", this::messageLogged);
        s.hold("of a TRANSITION 2, and MEMBERS (bits);", this::transitionLogged);
        s.hold("of a RING 3, and MEMBERS;", this::ringLogged);
        s.hold("and the NUMBER of the ring (of the old one in 1 and 2).", this::numberLogged);
        s.hold("A call that throws changes nothing;", this::throwsAndChangesNothing);
        s.hold("of several exceptions the one named first is thrown.", this::firstNamedIsThrown);
        s.hold("IndexOutOfBoundsException: there is no such node, key, entry.", this::noSuch);
        s.hold("IllegalArgumentException: another number is not as said.", this::notAsSaid);
        s.hold("IllegalStateException: it can't be done as things are.", this::cannotBeDone);
    }

    private void keysValue() {
        RingGroup group = Scene.ring(2, 8);
        group.send(0, 0, Long.MIN_VALUE, true);
        group.send(0, 15, Long.MAX_VALUE, true);
        group.send(0, 7, 1, true);
        group.send(0, 7, 0, true);
        group.send(0, 8, 5, false);
        Scene.passes(group, 0, 1);
        checks.due("the first key", group.table(1, 0), Long.MIN_VALUE);
        checks.due("the last key", group.table(1, 15), Long.MAX_VALUE);
        checks.due("the later value stands", group.table(1, 7), 0);
        checks.due("AGREED ones are not applied", group.table(1, 8), 0);
    }

    private void appliedGrows() {
        RingGroup group = Scene.ring(2, 8);
        for (int i = 1; i <= 100; i++) {
            Scene.fill(group, 1, true);
            checks.due("by update " + i, group.about(1, Scene.APPLIED), i);
        }
        group.crash(1);
        group.gather(0);
        checks.due("by the last one that 0 had not delivered", group.about(0, Scene.APPLIED), 100);
        group.send(0, 0, 0, true);
        group.pass(0, 0);
        checks.due("and on in the next ring", group.about(0, Scene.APPLIED), 101);
    }

    private void markWrapsAround() {
        RingGroup group = Scene.ring(2, 8);
        long[] values = {0, 1, -1, Long.MAX_VALUE, Long.MIN_VALUE, Long.MAX_VALUE, 1L << 62, -5};
        int[] keys = {0, 15, 0, 15, 1, 14, 7, 3};
        long want = 0;
        for (int i = 0; i < values.length; i++) {
            group.send(0, keys[i], values[i], true);
            Scene.passes(group, 0, 1);
            want = want * 31 + keys[i] * 17 + values[i];
            checks.due("behind update " + i, group.mark(1), want);
        }
        RingGroup over = Scene.ring(2, 8);
        over.send(0, 15, Long.MAX_VALUE, true);
        Scene.passes(over, 0, 1);
        checks.due("past the greatest long", over.mark(1), Long.MIN_VALUE + 254);
    }

    private void doneBecomesPlace() {
        RingGroup group = Scene.ring(2, 3);
        group.send(0, 1, 1, false);
        group.send(0, 2, 2, true);
        group.send(0, 3, 3, false);
        Scene.passes(group, 0, 1, 0);
        group.send(0, 4, 4, true);
        Scene.passes(group, 1, 0);
        checks.due("the one at place 2", group.about(0, Scene.APPLIED), 1);
        Scene.reborn(group, 0, 1);
        group.gather(1);
        checks.due("DONE is 2, not 1: the one at place 4", group.about(0, Scene.APPLIED), 2);
        checks.due("MARK", group.mark(0), (2 * 17 + 2) * 31 + 4 * 17 + 4);
    }

    private void inPass() {
        RingGroup group = Scene.ring(2, 1);
        group.send(0, 1, 1, true);
        group.pass(0, 0);
        checks.due("not when it is sent", group.about(0, Scene.APPLIED), 0);
        checks.due("nor when it comes", group.about(1, Scene.APPLIED), 0);
        group.pass(1, 0);
        checks.due("when it is delivered", group.about(1, Scene.APPLIED), 1);
        checks.due("by that node alone", group.about(0, Scene.APPLIED), 0);
        group.pass(0, 0);
        checks.due("then by the other", group.about(0, Scene.APPLIED), 1);
    }

    /** All have an update; who passed last alone knows that it is safe. */
    private static RingGroup knownByFour() {
        RingGroup group = Scene.ring(5, 1);
        group.send(0, 1, 10, true);
        Scene.passes(group, 0, 1, 2, 3, 4);
        return group;
    }

    private void beforeTransition() {
        RingGroup group = knownByFour();
        group.part(3, 1);
        group.part(4, 1);
        group.gather(4);
        checks.due("not PRIMARY then", group.primary(3), false);
        checks.due("told before the TRANSITION", Scene.log(group, 3), "r31@1 m1.0.1.10@1 t24@1 r24@2");
        checks.due("APPLIED", group.about(3, Scene.APPLIED), 1);
        checks.due("TABLE", group.table(3, 1), 10);
        checks.due("not twice", group.about(4, Scene.APPLIED), 1);
    }

    private void votedRingAlone() {
        RingGroup group = Scene.ring(3, 1);
        Scene.goes(group, 2, 1);
        group.send(2, 1, 10, true);
        checks.due("delivered", group.pass(2, 0), 1);
        checks.due("in a ring that is not PRIMARY", group.about(2, Scene.APPLIED), 0);
        checks.due("TABLE", group.table(2, 1), 0);
        checks.due("MARK", group.mark(2), 0);
        RingGroup gathered = Scene.ring(5, 1);
        gathered.part(3, 1);
        gathered.part(4, 1);
        gathered.gather(3);
        gathered.send(3, 1, 10, true);
        Scene.passes(gathered, 3, 4);
        gathered.part(3, 0);
        gathered.part(4, 0);
        gathered.gather(0);
        checks.due("3 learns that it is safe", Scene.log(gathered, 3), "r31@1 t24@1 r24@2 m1.3.1.10@2 t24@2 r31@3");
        checks.due("not APPLIED, not PRIMARY", gathered.about(3, Scene.APPLIED), 0);
    }

    private void notBehindTransition() {
        RingGroup group = knownByFour();
        Scene.goes(group, 3, 1);
        checks.due("told behind it", Scene.log(group, 3), "r31@1 t8@1 m1.0.1.10@1 r8@2");
        checks.due("not APPLIED", group.about(3, Scene.APPLIED), 0);
        RingGroup primary = Scene.ring(2, 1);
        primary.send(0, 1, 10, true);
        primary.pass(0, 0);
        primary.crash(1);
        primary.gather(0);
        checks.due("told behind it", Scene.log(primary, 0), "r3@1 t1@1 m1.0.1.10@1 r1@2");
        checks.due("APPLIED as it was KEPT, once", primary.about(0, Scene.APPLIED), 1);
    }

    private void latestHundred() {
        RingGroup group = new RingGroup(2, 1);
        checks.outOfBounds("empty", () -> group.entry(0, 0, 0));
        int number = 0;
        for (int told = 1; told <= 240; told++) {
            if (told % 2 == 1) {
                number = group.gather(1);
                group.crash(0);
            } else {
                group.restart(0);
            }
            int size = Math.min(100, group.about(1, Scene.LOGGED));
            checks.due("the latest is the RING", group.entry(1, size - 1, 5), number);
            checks.outOfBounds("no more than " + size, () -> group.entry(1, size, 0));
        }
        checks.due("a TRANSITION and a RING each time but the first", group.about(1, Scene.LOGGED), 239);
        for (int k = 0; k < 100; k++) {
            boolean ring = k % 2 == 1;
            checks.due("kind of " + k, group.entry(1, k, 0), ring ? RingGroup.RING : RingGroup.TRANSITION);
            checks.due("NUMBER of " + k, group.entry(1, k, 5), ring ? 71 + k / 2 : 70 + k / 2);
        }
    }

    private void entryDue(RingGroup group, int node, int k, long... want) {
        for (int what = 0; what < want.length; what++) {
            checks.due("entry(" + node + ", " + k + ", " + what + ")", group.entry(node, k, what), want[what]);
        }
    }

    /** 7 sends one as the last of eight and then is alone in a second ring, where it sends another. */
    private static RingGroup logged() {
        RingGroup group = Scene.ring(8, 1);
        group.send(7, 15, Long.MIN_VALUE, false);
        Scene.passes(group, 0, 1, 2, 3, 4, 5, 6, 7);
        Scene.goes(group, 7, 7);
        group.send(7, 0, Long.MAX_VALUE, true);
        group.pass(7, 0);
        return group;
    }

    private void messageLogged() {
        entryDue(logged(), 7, 1, 1, 1, 7, 15, Long.MIN_VALUE, 1);
        entryDue(logged(), 7, 4, 1, 1, 7, 0, Long.MAX_VALUE, 2);
        RingGroup last = Scene.ring(2, 8);
        Scene.fill(last, 100, true);
        entryDue(last, 1, 99, 1, 100, 0, 4, 7, 1);
    }

    private void transitionLogged() {
        entryDue(logged(), 7, 2, 2, 128, 0, 0, 0, 1);
    }

    private void ringLogged() {
        entryDue(logged(), 7, 0, 3, 255, 0, 0, 0, 1);
        entryDue(logged(), 7, 3, 3, 128, 0, 0, 0, 2);
    }

    private void numberLogged() {
        RingGroup group = Scene.ring(3, 1);
        group.send(0, 1, 1, false);
        group.send(0, 1, 2, true);
        Scene.passes(group, 0, 1, 2, 0);
        group.crash(2);
        group.gather(1);
        group.send(0, 1, 3, false);
        group.pass(0, 0);
        checks.due("the old one's, then the new one's", Scene.log(group, 0),
                "r7@1 m1.0.1.1@1 t3@1 m2.0.1.2@1 r3@2 m1.0.1.3@2");
    }

    /** 0 holds the token of 0, 1, 2; 3 crashed; 1 has 12 PENDING; something is on its way. */
    private static RingGroup busy() {
        RingGroup group = Scene.ring(4, 1);
        group.crash(3);
        group.gather(0);
        Scene.sends(group, 1, 3, 30, true, 12);
        Scene.sends(group, 0, 4, 40, true, 2);
        group.pass(0, 0b010);
        Scene.passes(group, 1, 2);
        group.send(1, 5, 50, false);
        return group;
    }

    private void unchanged(String what, RingGroup group, String exception, Checks.Call call) {
        String before = Scene.states(group, 4);
        checks.due(what, Checks.thrownBy(call), exception);
        checks.due(what + " changed nothing", Scene.states(group, 4), before);
    }

    private void throwsAndChangesNothing() {
        String bounds = "IndexOutOfBoundsException";
        String argument = "IllegalArgumentException";
        String state = "IllegalStateException";
        RingGroup group = busy();
        for (int node : new int[] {Integer.MIN_VALUE, -1, 4, 8, Integer.MAX_VALUE}) {
            unchanged("send of " + node, group, bounds, () -> group.send(node, 0, 1, true));
            unchanged("pass of " + node, group, bounds, () -> group.pass(node, 0));
            unchanged("gather of " + node, group, bounds, () -> group.gather(node));
            unchanged("part of " + node, group, bounds, () -> group.part(node, 1));
            unchanged("crash of " + node, group, bounds, () -> group.crash(node));
            unchanged("restart of " + node, group, bounds, () -> group.restart(node));
            unchanged("about of " + node, group, bounds, () -> group.about(node, 0));
            unchanged("table of " + node, group, bounds, () -> group.table(node, 0));
            unchanged("mark of " + node, group, bounds, () -> group.mark(node));
            unchanged("entry of " + node, group, bounds, () -> group.entry(node, 0, 0));
            unchanged("primary of " + node, group, bounds, () -> group.primary(node));
        }
        unchanged("send of key 16", group, bounds, () -> group.send(0, 16, 1, true));
        unchanged("send of 3, not up", group, state, () -> group.send(3, 0, 1, true));
        unchanged("send of 1, 12 PENDING", group, state, () -> group.send(1, 0, 1, true));
        unchanged("pass of 1", group, state, () -> group.pass(1, 0));
        unchanged("pass of 3, not up", group, state, () -> group.pass(3, 0));
        unchanged("gather of 3, not up", group, state, () -> group.gather(3));
        unchanged("part to -1", group, argument, () -> group.part(0, -1));
        unchanged("part to 8", group, argument, () -> group.part(0, 8));
        unchanged("crash of 3, not up", group, state, () -> group.crash(3));
        unchanged("restart of 0, up", group, state, () -> group.restart(0));
        unchanged("about 14", group, argument, () -> group.about(0, 14));
        unchanged("table of key -1", group, bounds, () -> group.table(0, -1));
        unchanged("entry 100", group, bounds, () -> group.entry(0, 100, 0));
        unchanged("entry's 6", group, argument, () -> group.entry(0, 0, 6));
        RingGroup untold = busy();
        long got = group.pass(0, 0);
        checks.due("it goes on as one whose calls never threw", got, untold.pass(0, 0));
        checks.due("in all", Scene.states(group, 4), Scene.states(untold, 4));
    }

    private void firstNamedIsThrown() {
        RingGroup group = busy();
        checks.outOfBounds("send: no such key, and not up", () -> group.send(3, 16, 0, true));
        checks.outOfBounds("send: no such key, and 12 PENDING", () -> group.send(1, -1, 0, true));
        checks.outOfBounds("part: no such node, no such group", () -> group.part(4, 8));
        checks.outOfBounds("about: no such node, another what", () -> group.about(-1, 14));
        checks.outOfBounds("entry: no such node, another what", () -> group.entry(4, 0, 6));
        checks.outOfBounds("entry: no such entry, another what", () -> group.entry(0, -1, -1));
        checks.outOfBounds("entry: an entry behind the last, another what", () -> group.entry(3, 2, 6));
    }

    private void noSuch() {
        RingGroup group = Scene.ring(2, 1);
        checks.outOfBounds("node", () -> group.mark(2));
        checks.outOfBounds("node below 0", () -> group.mark(-1));
        checks.outOfBounds("key", () -> group.table(0, 16));
        checks.outOfBounds("key below 0", () -> group.table(0, -1));
        checks.outOfBounds("entry", () -> group.entry(0, 1, 0));
        checks.outOfBounds("entry below 0", () -> group.entry(0, -1, 0));
        checks.due("the last node, key", group.table(1, 15), 0);
        checks.due("the last entry", group.entry(1, 0, 0), 3);
    }

    private void notAsSaid() {
        RingGroup group = Scene.ring(2, 1);
        checks.badArgument("group 8", () -> group.part(0, 8));
        checks.badArgument("what 14 of about", () -> group.about(0, 14));
        checks.badArgument("what 6 of entry", () -> group.entry(0, 0, 6));
        checks.due("any misses are as said", group.pass(0, Integer.MIN_VALUE), 0);
        checks.due("any value is", group.send(0, 0, Long.MIN_VALUE, true), 1);
    }

    private void cannotBeDone() {
        RingGroup group = busy();
        checks.badState("send", () -> group.send(3, 0, 0, true));
        checks.badState("pass", () -> group.pass(2, 0));
        checks.badState("gather", () -> group.gather(3));
        checks.badState("crash", () -> group.crash(3));
        checks.badState("restart", () -> group.restart(2));
        group.part(3, 2);
        checks.due("part can be done of one that is not up", group.about(3, Scene.GROUP), 2);
        checks.due("so can what asks", group.primary(3), false);
    }
}
