/** What the document says of being GATHERED, line by line. */
final class GatherSentences {
    private final Checks checks;

    GatherSentences(Checks checks) {
        this.checks = checks;
    }

    void hold(Sentences s) {
        s.in("Terms");
        holdBeginning(s);
        holdOldRings(s);
        holdNewRing(s);
    }

    private void holdBeginning(Sentences s) {
        s.hold("GATHERED by a node that is UP:", this::byNodeUp);
        s.hold("C is all nodes that are UP and in its GROUP.", this::upAndInGroup);
        s.hold("If they all are of one ring,", this::allOfOneRing);
        s.hold("whose MEMBERS are just C", this::membersAreJustC);
        s.hold("and whose token is not lost,", this::tokenNotLost);
        s.hold("nothing happens.", this::nothingHappens);
        s.hold("Else:", this::elseNewRing);
        s.hold("V is the VOTE with the greatest NUMBER of all in C", this::greatestVote);
        s.hold("(of several that of the one with the greatest APPLIED, of several the least).", this::severalVotes);
        s.hold("C is PRIMARY if more than half of V's MEMBERS are in C,", this::moreThanHalf);
        s.hold("or just half of them with the least one of them.", this::halfWithLeast);
    }

    private void holdOldRings(Sentences s) {
        s.hold("for each ring that nodes of C are of", this::eachOldRing);
        s.hold("(by NUMBERS; of several with the same, by their least MEMBERS),", this::sameNumbers);
        s.hold("T being these nodes:", this::theseNodes);
        s.hold("all of them HAVE what one of them HAS,", this::shareWhatTheyHave);
        s.hold("and SAFE_TO becomes the greatest one of all.", this::greatestSafeTo);
        s.hold("Each of them (by numbers) delivers as in a PASS;", this::deliversAsInPass);
        s.hold("then it tells a TRANSITION with MEMBERS T;", this::tellsTransition);
        s.hold("then, behind DELIVERED, it delivers all that it HAS in turn,", this::deliversRest);
        s.hold("but from the first place on that it does not HAVE,", this::fromFirstGap);
        s.hold("only those whose senders are in T.", this::onlySendersInT);
    }

    private void holdNewRing(Sentences s) {
        s.hold("if C is PRIMARY: of those in C with the VOTE of V's NUMBER", this::thoseWithThatVote);
        s.hold("the one with the greatest APPLIED (of several the least)", this::greatestApplied);
        s.hold("APPLIES, in turn, all behind its DONE", this::allBehindDone);
        s.hold("that one of them has KEPT;", this::keptByOneOfThem);
        s.hold("then all in C get its TABLE, APPLIED, MARK.", this::allGetTable);
        s.hold("all are of a new ring: its NUMBER is the greatest HIGHEST of all in C and 1 more (their HIGHEST then),",
                this::newNumber);
        s.hold("MEMBERS C,", this::newMembers);
        s.hold("no places;", this::noPlaces);
        s.hold("the least of C HOLDS the token.", this::leastHolds);
        s.hold("If C is PRIMARY, their VOTE becomes that NUMBER and C,", this::newVote);
        s.hold("nothing is KEPT, DONE is 0.", this::nothingKept);
        s.hold("Each tells a RING.", this::eachTellsRing);
    }

    private void byNodeUp() {
        RingGroup group = new RingGroup(3, 1);
        group.crash(1);
        String before = Scene.states(group, 3);
        checks.badState("not up", () -> group.gather(1));
        checks.due("nothing changed", Scene.states(group, 3), before);
        group.restart(1);
        checks.due("up again", group.gather(1), 1);
    }

    private void upAndInGroup() {
        RingGroup group = new RingGroup(8, 1);
        checks.due("all", group.gather(7), 1);
        checks.due("eight", group.about(0, Scene.MEMBERS), 255);
        group.part(2, 3);
        group.part(4, 3);
        group.part(6, 3);
        group.crash(4);
        group.gather(6);
        checks.due("those up in the group", group.about(2, Scene.MEMBERS), 0b01000100);
        checks.due("not the one that is not up", group.about(4, Scene.MEMBERS), 0);
        checks.due("not one of another group", group.about(0, Scene.MEMBERS), 255);
        group.crash(2);
        group.gather(6);
        checks.due("alone", group.about(6, Scene.MEMBERS), 0b01000000);
    }

    private void allOfOneRing() {
        RingGroup fresh = new RingGroup(2, 1);
        checks.due("all of none", fresh.gather(0), 1);
        RingGroup one = Scene.ring(3, 1);
        Scene.reborn(one, 2);
        checks.due("one of none", one.gather(0), 2);
        RingGroup two = new RingGroup(4, 1);
        two.part(2, 1);
        two.part(3, 1);
        two.gather(0);
        checks.due("another ring of the same NUMBER", two.gather(2), 1);
        two.part(2, 0);
        two.part(3, 0);
        checks.due("of two rings", two.gather(3), 2);
        RingGroup left = Scene.ring(3, 1);
        Scene.goes(left, 0, 1);
        left.part(0, 0);
        checks.due("all MEMBERS, but one is of another ring", left.gather(1), 3);
    }

    private void membersAreJustC() {
        RingGroup parted = Scene.ring(3, 1);
        parted.part(2, 1);
        checks.due("a member is not in C", parted.gather(0), 2);
        checks.due("those left are just C now", parted.gather(1), 0);
        checks.due("the other alone is not just the MEMBERS", parted.gather(2), 2);
        checks.due("now it is", parted.gather(2), 0);
        RingGroup crashed = Scene.ring(3, 1);
        crashed.crash(1);
        checks.due("a member is not up", crashed.gather(0), 2);
        RingGroup moved = Scene.ring(3, 1);
        moved.part(0, 5);
        moved.part(1, 5);
        moved.part(2, 5);
        checks.due("all moved to one GROUP", moved.gather(1), 0);
    }

    private void tokenNotLost() {
        RingGroup group = Scene.ring(2, 1);
        group.part(1, 1);
        group.pass(0, 0);
        group.part(1, 0);
        checks.due("lost", group.gather(0), 2);
        checks.due("the new one is not", group.gather(0), 0);
        group.pass(0, 0);
        checks.due("nor when another holds it", group.gather(0), 0);
    }

    private void nothingHappens() {
        RingGroup group = Scene.ring(3, 2);
        Scene.sends(group, 0, 1, 1, true, 3);
        group.pass(0, 0b010);
        group.send(1, 1, 1, false);
        String before = Scene.states(group, 3);
        for (int node = 0; node < 3; node++) {
            checks.due("asked by " + node, group.gather(node), 0);
        }
        checks.due("nothing changed", Scene.states(group, 3), before);
        checks.due("the token is where it was", group.pass(1, 0), 0);
        RingGroup alone = new RingGroup(2, 1);
        checks.due("alone", Scene.goes(alone, 1, 1), 1);
        checks.due("alone again", alone.gather(1), 0);
    }

    private void elseNewRing() {
        RingGroup group = Scene.ring(2, 1);
        group.crash(0);
        checks.due("the new ring", group.gather(1), 2);
        checks.due("the old one is told before it", Scene.log(group, 1), "r3@1 t2@1 r2@2");
    }

    /** VOTES: 3 has 1 of all four, 0 has 2 of {0, 1, 2}, 1 and 2 have 3 of {1, 2}; 0 and 3 are in group 0. */
    private static RingGroup threeVotes() {
        RingGroup group = Scene.ring(4, 1);
        group.part(3, 1);
        group.gather(0);
        group.part(1, 2);
        group.part(2, 2);
        group.gather(1);
        group.part(3, 0);
        return group;
    }

    private void greatestVote() {
        RingGroup group = threeVotes();
        checks.due("NUMBER of 3", group.about(3, Scene.VOTE), 1);
        checks.due("NUMBER of 0", group.about(0, Scene.VOTE), 2);
        checks.due("NUMBER of 1", group.about(1, Scene.VOTE), 3);
        group.gather(3);
        checks.due("half of the first with its least, but one of three of the second", group.primary(0), false);
        RingGroup newest = threeVotes();
        newest.part(2, 0);
        newest.gather(0);
        checks.due("three of four, two of three, but one of {1, 2} without its least", newest.primary(3), false);
        RingGroup least = threeVotes();
        least.part(1, 0);
        least.gather(0);
        checks.due("one of {1, 2} with its least", least.primary(3), true);
    }

    private void severalVotes() {
        RingGroup group = Scene.ring(3, 1);
        group.send(0, 5, 55, true);
        group.pass(0, 0);
        group.send(1, 6, 66, true);
        Scene.passes(group, 1, 2);
        group.crash(1);
        group.gather(0);
        checks.due("2 had APPLIED one, 0 none", group.about(0, Scene.APPLIED), 2);
        checks.due("in turn", group.mark(0), (5 * 17 + 55) * 31 + 6 * 17 + 66);
        checks.due("VOTE", group.about(0, Scene.VOTE), 2);
        checks.due("alike", group.mark(2), group.mark(0));
    }

    /** Whether these of so many nodes become a PRIMARY ring, as they gather from the first VOTE. */
    private static boolean becomesPrimary(int nodes, int set) {
        RingGroup group = new RingGroup(nodes, 1);
        int last = 0;
        for (int node = 0; node < nodes; node++) {
            if ((set >> node & 1) != 0) {
                group.part(node, 1);
                last = node;
            }
        }
        group.gather(last);
        return group.primary(last);
    }

    private void moreThanHalf() {
        for (int nodes = 2; nodes <= 8; nodes++) {
            for (int set = 1; set < 1 << nodes; set++) {
                int twice = 2 * Integer.bitCount(set);
                if (twice != nodes) {
                    checks.due(set + " of " + nodes, becomesPrimary(nodes, set), twice > nodes);
                }
            }
        }
        RingGroup others = threeVotes();
        others.part(1, 0);
        others.part(2, 0);
        others.gather(0);
        checks.due("all of V's, and others", others.primary(0), true);
        checks.due("others become voters", others.about(3, Scene.VOTERS), 15);
    }

    private void halfWithLeast() {
        for (int nodes = 2; nodes <= 8; nodes += 2) {
            for (int set = 1; set < 1 << nodes; set++) {
                if (2 * Integer.bitCount(set) == nodes) {
                    checks.due(set + " of " + nodes, becomesPrimary(nodes, set), (set & 1) != 0);
                }
            }
        }
        RingGroup least = threeVotes();
        least.part(2, 3);
        least.gather(1);
        checks.due("1 is the least of V's MEMBERS, not of all nodes", least.primary(1), true);
        RingGroup other = threeVotes();
        other.part(2, 0);
        other.gather(2);
        checks.due("0 is the least of C, but none of V's", other.primary(0), false);
    }

    private void eachOldRing() {
        RingGroup group = new RingGroup(4, 1);
        group.part(2, 1);
        group.gather(0);
        Scene.goes(group, 2, 2);
        Scene.reborn(group, 3);
        group.send(0, 0, 1, false);
        group.send(2, 0, 2, false);
        Scene.passes(group, 0, 2);
        Scene.goes(group, 2, 0);
        checks.due("0 tells its own", Scene.log(group, 0), "r11@1 m1.0.0.1@1 t3@1 r15@2");
        checks.due("1 the same", Scene.log(group, 1), Scene.log(group, 0));
        checks.due("2 its own", Scene.log(group, 2), "r4@1 m1.2.0.2@1 t4@1 r15@2");
        checks.due("3 is of none: no TRANSITION", Scene.log(group, 3), "r11@1 r15@2");
    }

    private void sameNumbers() {
        RingGroup group = new RingGroup(8, 1);
        for (int node = 0; node < 8; node++) {
            group.part(node, node / 2);
        }
        for (int node = 1; node < 8; node += 2) {
            checks.due("NUMBER", group.gather(node), 1);
            group.send(node - 1, node, node, false);
            group.pass(node - 1, 0);
        }
        for (int node = 0; node < 8; node++) {
            group.part(node, 0);
        }
        checks.due("they meet", group.gather(7), 2);
        for (int node = 0; node < 8; node++) {
            int even = node / 2 * 2;
            int pair = 3 << even;
            checks.due("each pair is told alone", Scene.log(group, node), "r" + pair + "@1 m1." + even + "."
                    + (even + 1) + "." + (even + 1) + "@1 t" + pair + "@1 r255@2");
        }
    }

    private void theseNodes() {
        RingGroup group = Scene.ring(4, 1);
        group.crash(2);
        group.part(3, 1);
        group.gather(0);
        checks.due("those of C alone", Scene.log(group, 0), "r15@1 t3@1 r3@2");
        group.restart(2);
        group.part(3, 0);
        group.gather(0);
        checks.due("what is left of the first ring", Scene.log(group, 3), "r15@1 t8@1 r15@3");
        checks.due("the second", Scene.log(group, 1), "r15@1 t3@1 r3@2 t3@2 r15@3");
        checks.due("of none", Scene.log(group, 2), "r15@1 r15@3");
    }

    private void shareWhatTheyHave() {
        RingGroup group = Scene.ring(4, 1);
        group.send(0, 0, 1, false);
        group.send(1, 0, 2, false);
        group.send(2, 0, 3, false);
        group.pass(0, 0b1010);
        group.pass(1, 0b1101);
        group.pass(2, 0b0011);
        group.crash(0);
        group.crash(3);
        group.gather(2);
        String want = "r15@1 m1.0.0.1@1 m2.1.0.2@1 m3.2.0.3@1 t6@1 r6@2";
        checks.due("1 had the second alone", Scene.log(group, 1), want);
        checks.due("2 had all but the second", Scene.log(group, 2), want);
        RingGroup last = Scene.ring(2, 8);
        Scene.fill(last, 99, false);
        last.send(0, 9, 90, false);
        last.part(1, 1);
        last.pass(0, 0);
        checks.due("1 misses the last place", last.about(1, Scene.FULL), 99);
        Scene.goes(last, 1, 0);
        checks.due("1 tells it before the TRANSITION", last.entry(1, 97, 1), 100);
        checks.due("TRANSITION", last.entry(1, 98, 0), RingGroup.TRANSITION);
        RingGroup kept = Scene.ring(5, 1);
        kept.send(0, 7, 77, true);
        kept.pass(0, 0b10110);
        kept.part(2, 1);
        kept.part(3, 1);
        kept.gather(2);
        kept.crash(0);
        kept.crash(3);
        Scene.goes(kept, 2, 0);
        checks.due("and KEEP what they got so", kept.table(4, 7), 77);
    }

    private void greatestSafeTo() {
        RingGroup group = Scene.ring(3, 1);
        group.send(0, 4, 40, true);
        Scene.passes(group, 0, 1, 2);
        group.crash(0);
        group.gather(1);
        checks.due("1 learns it of 2", Scene.log(group, 1), "r7@1 m1.0.4.40@1 t6@1 r6@2");
        RingGroup least = Scene.ring(3, 1);
        least.send(1, 4, 40, true);
        Scene.passes(least, 0, 1, 2, 0, 1);
        least.send(1, 4, 41, true);
        least.crash(0);
        least.gather(2);
        checks.due("2 learns it of 1", Scene.log(least, 2), "r7@1 m1.1.4.40@1 t6@1 r6@2");
        RingGroup none = Scene.ring(3, 1);
        none.send(0, 4, 40, true);
        Scene.passes(none, 0, 1, 2);
        none.part(2, 1);
        none.gather(1);
        checks.due("none of T knows it", Scene.log(none, 1), "r7@1 t3@1 m1.0.4.40@1 r3@2");
    }

    private void deliversAsInPass() {
        RingGroup group = Scene.ring(3, 4);
        group.send(0, 1, 1, true);
        group.send(0, 1, 2, false);
        group.send(2, 1, 3, true);
        group.send(2, 1, 4, false);
        Scene.passes(group, 0, 1, 2);
        checks.due("2 has delivered up to SAFE_TO", group.about(2, Scene.DELIVERED), 2);
        checks.due("1 has delivered nothing", group.about(1, Scene.DELIVERED), 0);
        group.crash(0);
        group.gather(1);
        String want = "r7@1 m1.0.1.1@1 m2.0.1.2@1 t6@1 m3.2.1.3@1 m4.2.1.4@1 r6@2";
        checks.due("1 delivers up to SAFE_TO, the rest behind the TRANSITION", Scene.log(group, 1), want);
        checks.due("2 goes on behind DELIVERED", Scene.log(group, 2), want);
        RingGroup applied = Scene.ring(5, 1);
        applied.send(0, 1, 1, true);
        Scene.passes(applied, 0, 1, 2, 3, 4);
        applied.part(3, 1);
        applied.part(4, 1);
        applied.gather(3);
        checks.due("3 learns that it is safe", Scene.log(applied, 3), "r31@1 m1.0.1.1@1 t24@1 r24@2");
        checks.due("and APPLIES it, as in a PASS", applied.about(3, Scene.APPLIED), 1);
    }

    private void tellsTransition() {
        RingGroup all = Scene.ring(8, 1);
        all.crash(0);
        all.restart(0);
        all.gather(4);
        checks.due("all but one", Scene.log(all, 7), "r255@1 t254@1 r255@2");
        RingGroup one = Scene.ring(8, 1);
        Scene.goes(one, 7, 1);
        checks.due("one", Scene.log(one, 7), "r255@1 t128@1 r128@2");
        checks.due("not for the others", Scene.log(one, 6), "r255@1");
        RingGroup lost = Scene.ring(2, 1);
        lost.part(1, 1);
        lost.pass(0, 0);
        Scene.goes(lost, 1, 0);
        checks.due("all, when the token was lost", Scene.log(lost, 0), "r3@1 t3@1 r3@2");
    }

    private void deliversRest() {
        RingGroup group = Scene.ring(3, 3);
        group.send(0, 1, 1, true);
        group.send(0, 1, 2, false);
        group.send(0, 1, 3, true);
        group.pass(0, 0);
        group.part(2, 1);
        group.gather(2);
        checks.due("safe ones too, in turn, of whom it be", Scene.log(group, 2),
                "r7@1 t4@1 m1.0.1.1@1 m2.0.1.2@1 m3.0.1.3@1 r4@2");
        RingGroup none = Scene.ring(2, 1);
        none.send(0, 1, 1, false);
        Scene.passes(none, 0, 1);
        none.crash(0);
        none.gather(1);
        checks.due("nothing is left", Scene.log(none, 1), "r3@1 m1.0.1.1@1 t2@1 r2@2");
        RingGroup most = Scene.ring(2, 8);
        Scene.fill(most, 96, false);
        Scene.sends(most, 0, 1, 0, true, 4);
        most.pass(0, 0);
        most.crash(0);
        most.gather(1);
        checks.due("up to the last place", most.entry(1, 98, 1), 100);
        checks.due("before it", most.entry(1, 97, 1), 99);
        checks.due("behind the TRANSITION", most.entry(1, 94, 0), RingGroup.TRANSITION);
    }

    /** Places 1 to 6 are of nodes 0 to 5; 5 misses those that are told (bit 0 for place 1), and goes. */
    private static RingGroup goneWithGaps(int missed) {
        RingGroup group = Scene.ring(6, 1);
        for (int node = 0; node < 6; node++) {
            group.send(node, 0, 0, node % 2 == 0);
            group.pass(node, (missed >> node & 1) << 5);
        }
        Scene.goes(group, 5, 1);
        return group;
    }

    private void fromFirstGap() {
        checks.due("no gap", told(goneWithGaps(0)), "1 2 3 4 5 6");
        checks.due("the first place", told(goneWithGaps(0b00001)), "6");
        checks.due("the second", told(goneWithGaps(0b00010)), "1 6");
        checks.due("the third", told(goneWithGaps(0b00100)), "1 2 6");
        checks.due("the one before its own", told(goneWithGaps(0b10000)), "1 2 3 4 6");
        checks.due("two gaps", told(goneWithGaps(0b01010)), "1 6");
        checks.due("all but its own", told(goneWithGaps(0b11111)), "6");
    }

    /** The places that 5 delivered. */
    private static String told(RingGroup group) {
        StringBuilder text = new StringBuilder();
        for (int k = 0; k < group.about(5, Scene.LOGGED); k++) {
            if (group.entry(5, k, 0) == RingGroup.MESSAGE) {
                text.append(text.length() == 0 ? "" : " ").append(group.entry(5, k, 1));
            }
        }
        return text.toString();
    }

    private void onlySendersInT() {
        RingGroup group = Scene.ring(4, 1);
        for (int node = 0; node < 4; node++) {
            group.send(node, node, node, node % 2 == 0);
        }
        group.pass(0, 0b1110);
        group.pass(1, 0b1101);
        group.pass(2, 0);
        group.pass(3, 0);
        group.crash(0);
        group.crash(2);
        group.gather(3);
        checks.due("place 1 is missing: 1 and 3 are in T, 2 is not", Scene.log(group, 1),
                "r15@1 t10@1 m2.1.1.1@1 m4.3.3.3@1 r10@2");
        checks.due("3 the same", Scene.log(group, 3), Scene.log(group, 1));
    }

    private void thoseWithThatVote() {
        RingGroup group = Scene.ring(3, 1);
        group.send(0, 8, 80, true);
        group.pass(0, 0b110);
        group.part(0, 1);
        group.gather(1);
        Scene.goes(group, 0, 0);
        checks.due("0's VOTE is older, so what it has KEPT is not applied", group.about(0, Scene.APPLIED), 0);
        checks.due("by nobody", group.table(1, 8), 0);
        RingGroup both = Scene.ring(3, 1);
        both.send(0, 8, 80, true);
        both.pass(0, 0b110);
        both.part(0, 1);
        both.gather(1);
        both.send(1, 9, 90, true);
        both.pass(1, 0);
        Scene.goes(both, 0, 0);
        checks.due("place 1 of V's ring, not of the older one", both.table(0, 9), 90);
        checks.due("APPLIED", both.about(0, Scene.APPLIED), 1);
        RingGroup parted = Scene.ring(3, 1);
        parted.part(2, 1);
        parted.send(0, 8, 80, true);
        parted.pass(0, 0);
        parted.crash(0);
        parted.crash(1);
        parted.gather(2);
        checks.due("not PRIMARY: nothing is applied", parted.about(2, Scene.APPLIED), 0);
        parted.restart(1);
        parted.gather(1);
        checks.due("nor here, one of three", parted.about(1, Scene.APPLIED), 0);
    }

    private void greatestApplied() {
        RingGroup group = Scene.ring(3, 2);
        Scene.sends(group, 0, 5, 50, true, 2);
        Scene.passes(group, 0, 1, 2);
        Scene.reborn(group, 0, 1, 2);
        group.gather(0);
        checks.due("2 had applied both, 0 and 1 none", group.about(0, Scene.APPLIED), 2);
        checks.due("MARK", group.mark(1), (5 * 17 + 50) * 31 + 5 * 17 + 51);
        RingGroup older = Scene.ring(3, 1);
        older.part(0, 1);
        older.gather(1);
        older.send(1, 5, 50, true);
        Scene.passes(older, 1, 2, 1);
        Scene.goes(older, 1, 1);
        checks.due("the least has an older VOTE, and has not its TABLE", older.table(0, 5), 50);
    }

    private void allBehindDone() {
        RingGroup group = Scene.ring(2, 1);
        for (int i = 0; i < 4; i++) {
            group.send(0, i, 10 + i, true);
        }
        Scene.passes(group, 0, 1, 0, 1, 0, 1, 0);
        checks.due("0 has applied three", group.about(0, Scene.APPLIED), 3);
        Scene.reborn(group, 0, 1);
        group.gather(0);
        checks.due("the fourth is behind DONE", group.about(0, Scene.APPLIED), 4);
        long mark = 0;
        for (int i = 0; i < 4; i++) {
            mark = mark * 31 + i * 17 + 10 + i;
        }
        checks.due("in turn", group.mark(1), mark);
        checks.due("nothing is told of it", Scene.log(group, 0),
                "r3@1 m1.0.0.10@1 m2.0.1.11@1 m3.0.2.12@1 r3@2");
    }

    private void keptByOneOfThem() {
        RingGroup group = Scene.ring(4, 1);
        for (int node = 0; node < 4; node++) {
            group.send(node, node, 1 + node, true);
        }
        group.pass(0, 0b1110);
        group.pass(1, 0b0100);
        group.pass(2, 0b1011);
        group.pass(3, 0b0111);
        Scene.reborn(group, 0, 1, 2, 3);
        group.part(0, 1);
        group.gather(2);
        checks.due("nobody here has KEPT the first", group.table(1, 0), 0);
        checks.due("the second, of 1 and 3", group.table(2, 1), 2);
        checks.due("the third, of 2", group.table(1, 2), 3);
        checks.due("the fourth, of 3", group.table(1, 3), 4);
        checks.due("each once", group.about(3, Scene.APPLIED), 3);
        long mark = ((17 + 2) * 31L + 2 * 17 + 3) * 31 + 3 * 17 + 4;
        checks.due("in turn", group.mark(1), mark);
    }

    private void allGetTable() {
        RingGroup group = Scene.ring(4, 1);
        Scene.goes(group, 3, 1);
        group.gather(0);
        group.send(1, 0, 7, true);
        group.send(1, 15, 8, true);
        Scene.passes(group, 0, 1, 2, 0, 1, 2, 0);
        group.crash(2);
        group.restart(2);
        Scene.goes(group, 3, 0);
        for (int node = 0; node < 4; node++) {
            checks.due("TABLE, key 0 of " + node, group.table(node, 0), 7);
            checks.due("TABLE, key 15 of " + node, group.table(node, 15), 8);
            checks.due("APPLIED of " + node, group.about(node, Scene.APPLIED), 2);
            checks.due("MARK of " + node, group.mark(node), 7 * 31 + 15 * 17 + 8);
        }
        RingGroup apart = Scene.ring(3, 1);
        apart.part(2, 1);
        apart.gather(0);
        apart.send(0, 3, 30, true);
        Scene.passes(apart, 0, 1, 0);
        apart.part(1, 1);
        apart.gather(1);
        checks.due("not PRIMARY: {1} of {0, 1}", apart.primary(2), false);
        checks.due("so 2 gets nothing", apart.table(2, 3), 0);
        checks.due("nor APPLIED", apart.about(2, Scene.APPLIED), 0);
    }

    private void newNumber() {
        RingGroup group = new RingGroup(3, 1);
        checks.due("the first", group.gather(1), 1);
        Scene.goes(group, 2, 1);
        Scene.reborn(group, 2);
        group.gather(2);
        Scene.reborn(group, 2);
        checks.due("1 more each time", group.gather(2), 4);
        checks.due("another's counts from its own", group.gather(0), 2);
        group.crash(2);
        group.part(2, 0);
        group.restart(2);
        checks.due("the greatest of 2, 2, 4 and 1 more", group.gather(0), 5);
        for (int node = 0; node < 3; node++) {
            checks.due("HIGHEST of " + node, group.about(node, Scene.HIGHEST), 5);
            checks.due("NUMBER of " + node, group.about(node, Scene.NUMBER), 5);
        }
    }

    private void newMembers() {
        RingGroup group = new RingGroup(8, 1);
        group.part(0, 1);
        group.crash(7);
        group.gather(3);
        for (int node = 1; node < 7; node++) {
            checks.due("MEMBERS of " + node, group.about(node, Scene.MEMBERS), 0b01111110);
        }
        checks.due("not of 0", group.about(0, Scene.MEMBERS), 0);
        checks.due("not of 7", group.about(7, Scene.MEMBERS), 0);
    }

    private void noPlaces() {
        RingGroup group = Scene.ring(3, 2);
        Scene.sends(group, 0, 0, 0, true, 2);
        Scene.passes(group, 0, 1, 2, 0);
        group.crash(2);
        group.gather(0);
        for (int node = 0; node < 2; node++) {
            checks.due("FULL", group.about(node, Scene.FULL), 0);
            checks.due("DELIVERED", group.about(node, Scene.DELIVERED), 0);
            checks.due("SAFE_TO", group.about(node, Scene.SAFE_TO), 0);
        }
        group.send(0, 0, 9, true);
        checks.due("the token knows no FULL of before", group.pass(0, 0), 0);
        checks.due("the first place is given anew", group.pass(1, 0), 1);
        checks.due("it is place 1", group.entry(1, group.about(1, Scene.LOGGED) - 1, 1), 1);
        RingGroup all = Scene.ring(2, 8);
        Scene.fill(all, 100, false);
        all.crash(1);
        all.gather(0);
        Scene.sends(all, 0, 0, 0, false, 1);
        all.pass(0, 0);
        all.restart(1);
        all.gather(0);
        checks.due("nothing of 100 places is told again", all.about(0, Scene.LOGGED), 1 + 100 + 2 + 1 + 2);
        RingGroup requested = Scene.ring(3, 1);
        requested.send(0, 0, 1, false);
        requested.pass(0, 0b110);
        requested.pass(1, 0);
        Scene.reborn(requested, 2);
        requested.gather(0);
        requested.send(0, 0, 2, false);
        requested.pass(0, 0b100);
        requested.pass(1, 0);
        checks.due("nothing is REQUESTED of it", requested.about(2, Scene.FULL), 0);
    }

    private void leastHolds() {
        RingGroup group = new RingGroup(8, 1);
        group.part(0, 1);
        group.crash(1);
        group.gather(7);
        for (int node = 0; node < 8; node++) {
            checks.due("HOLDS: " + node, group.about(node, Scene.HOLDS), node == 2 ? 1 : 0);
        }
        Scene.passes(group, 2, 3);
        group.restart(1);
        group.gather(7);
        checks.due("the least of the new C", group.about(1, Scene.HOLDS), 1);
        checks.due("who held the old ring's does not", group.about(4, Scene.HOLDS), 0);
    }

    private void newVote() {
        RingGroup group = Scene.ring(5, 1);
        checks.due("NUMBER", group.about(4, Scene.VOTE), 1);
        checks.due("MEMBERS", group.about(4, Scene.VOTERS), 31);
        group.part(3, 1);
        group.part(4, 1);
        group.gather(0);
        group.gather(3);
        checks.due("PRIMARY: NUMBER", group.about(2, Scene.VOTE), 2);
        checks.due("PRIMARY: MEMBERS", group.about(2, Scene.VOTERS), 7);
        checks.due("not PRIMARY: NUMBER stays", group.about(3, Scene.VOTE), 1);
        checks.due("not PRIMARY: MEMBERS stay", group.about(3, Scene.VOTERS), 31);
        Scene.goes(group, 2, 1);
        checks.due("one of three: its VOTE stays", group.about(2, Scene.VOTE), 2);
        checks.due("the others' stay too", group.about(4, Scene.VOTE), 1);
    }

    private void nothingKept() {
        RingGroup group = Scene.ring(2, 2);
        Scene.sends(group, 0, 1, 1, true, 2);
        group.pass(0, 0);
        Scene.reborn(group, 0, 1);
        group.gather(0);
        checks.due("both are applied", group.about(1, Scene.APPLIED), 2);
        Scene.reborn(group, 0, 1);
        group.gather(0);
        checks.due("and KEPT no more", group.about(1, Scene.APPLIED), 2);
        group.send(0, 2, 9, true);
        group.pass(0, 0);
        Scene.reborn(group, 0, 1);
        group.gather(0);
        checks.due("DONE is 0, so place 1 is behind it", group.about(1, Scene.APPLIED), 3);
        RingGroup all = Scene.ring(2, 8);
        Scene.fill(all, 100, true);
        for (int times = 0; times < 3; times++) {
            Scene.reborn(all, 0, 1);
            all.gather(0);
            checks.due("none of 100 places is KEPT", all.about(1, Scene.APPLIED), 100);
        }
        RingGroup joined = Scene.ring(3, 1);
        Scene.passes(joined, 0, 1);
        joined.send(2, 8, 80, true);
        joined.pass(2, 0b011);
        joined.part(2, 1);
        joined.gather(0);
        Scene.goes(joined, 2, 0);
        Scene.reborn(joined, 0, 1, 2);
        joined.gather(0);
        checks.due("nor of one that came from an older ring", joined.about(2, Scene.APPLIED), 0);
    }

    private void eachTellsRing() {
        RingGroup group = new RingGroup(3, 1);
        group.part(1, 1);
        group.gather(2);
        checks.due("0", Scene.log(group, 0), "r5@1");
        checks.due("1 is not of it", Scene.log(group, 1), "");
        checks.due("2", Scene.log(group, 2), "r5@1");
        group.gather(1);
        checks.due("not PRIMARY, told as well", Scene.log(group, 1), "r2@1");
    }
}
