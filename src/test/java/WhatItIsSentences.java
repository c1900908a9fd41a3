/** What the document says before its Terms: seen in long runs of calls, whatever comes between. */
final class WhatItIsSentences {
    private static final int RUNS = 300;
    private static final int CALLS = 512;
    private static final int LEAST_SEEN = 1000;

    private final Checks checks;
    private final Findings findings = new Findings();

    WhatItIsSentences(Checks checks) {
        this.checks = checks;
    }

    void hold(Sentences s) {
        for (int run = 0; run < RUNS; run++) {
            watch(run);
        }
        s.in("What it is");
        for (String clause : new String[] {Witness.TOKEN, Witness.ORDER, Witness.SAFE, Witness.ANEW, Witness.LEFT,
            Tables.BY_ALL, Tables.BY_MOST}) {
            s.hold(clause, () -> {
                checks.due("seen often", findings.seen(clause) > LEAST_SEEN, true);
                checks.due("first broken", findings.broken(clause), "");
            });
        }
        s.hold("what later calls answer is free.", this::laterCallsEnd);
    }

    private void watch(int run) {
        Draws draws = new Draws(run);
        int nodes = 2 + draws.draw(7);
        Witness witness = new Witness(new RingGroup(nodes, 1 + draws.draw(8)), nodes, findings);
        for (int call = 0; call < CALLS && !witness.isBlind(); call++) {
            findings.at("run " + run + ", call " + call);
            draws.call(witness, nodes);
        }
        findings.at("run " + run + ", its end");
        witness.end();
    }

    /** Free as they are, they end, and throw nothing but what the document names. */
    private void laterCallsEnd() {
        RingGroup group = Scene.ring(8, 8);
        for (int i = 0; i < 2000; i++) {
            int round = i;
            int node = round % 8;
            endsAsNamed("send", () -> group.send(node, 3, Long.MAX_VALUE, true));
            endsAsNamed("pass", () -> group.pass(node, round));
            endsAsNamed("entry", () -> group.entry(node, 99, 4), "IndexOutOfBoundsException");
            if (round % 100 == 99) {
                endsAsNamed("crash", () -> group.crash(node));
                endsAsNamed("gather", () -> group.gather((node + 1) % 8));
                endsAsNamed("restart", () -> group.restart(node));
            }
        }
        checks.due("rings went on", group.about(0, Scene.HIGHEST) > 20, true);
    }

    private void endsAsNamed(String what, Checks.Call call) {
        endsAsNamed(what, call, "IllegalStateException");
    }

    private void endsAsNamed(String what, Checks.Call call, String named) {
        String thrown = Checks.thrownBy(call);
        checks.due(what + " threw " + thrown, thrown.equals("nothing") || thrown.equals(named), true);
    }
}
