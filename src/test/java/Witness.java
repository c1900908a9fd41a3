import java.util.ArrayDeque;
import java.util.ArrayList;
import java.util.HashMap;
import java.util.HashSet;
import java.util.List;
import java.util.Map;
import java.util.Set;
import java.util.TreeSet;

/** Makes the calls of one run, and holds what all nodes tell and change against the document's first sentence. */
final class Witness implements Draws.Calls {
    static final String TOKEN = "A group of processes that send to one another along a ring with a token:";
    static final String ORDER = "messages in one order,";
    static final String SAFE = "agreed or safe;";
    static final String ANEW = "rings that form anew when processes part, meet, crash;";
    static final String LEFT = "what is left of old rings is told before the new one begins;";

    private record Sent(int sender, int key, boolean safe) {
    }

    private final RingGroup group;
    private final int nodes;
    private final Findings findings;
    private final Tables tables;
    private final List<List<Telling>> told = new ArrayList<>();
    private final List<ArrayDeque<Long>> pending = new ArrayList<>();
    private final Map<Long, Sent> sent = new HashMap<>();
    private final Map<Standing.RingName, Map<Integer, Telling.Word>> placed = new HashMap<>();
    /** By rings: the places of SAFE messages that one of its members told as such that all have. */
    private final Map<Standing.RingName, Set<Integer>> known = new HashMap<>();
    private final int[] heard;
    private final int[] toldSafe;
    private final int[] toldWords;
    private Standing[] before;
    private Standing[] now;
    private boolean blind;

    Witness(RingGroup group, int nodes, Findings findings) {
        this.group = group;
        this.nodes = nodes;
        this.findings = findings;
        tables = new Tables(findings, nodes);
        heard = new int[nodes];
        toldSafe = new int[nodes];
        toldWords = new int[nodes];
        for (int node = 0; node < nodes; node++) {
            told.add(new ArrayList<>());
            pending.add(new ArrayDeque<>());
        }
        now = Standing.all(group, nodes);
    }

    /** Whether more was told in one call than a LOG has, so that no more can be said of this run. */
    boolean isBlind() {
        return blind;
    }

    @Override
    public boolean holds(int node) {
        return now[node].holds();
    }

    @Override
    public void send(int node, int key, long value, boolean safe) {
        // Each message has a VALUE of its own, by which it is known again.
        long unique = (sent.size() + 1) * 0x9E3779B97F4A7C15L;
        if (isDone(() -> group.send(node, key, unique, safe))) {
            sent.put(unique, new Sent(node, key, safe));
            pending.get(node).add(unique);
            nothingTold();
        }
    }

    @Override
    public void part(int node, int to) {
        if (isDone(() -> group.part(node, to))) {
            nothingTold();
        }
    }

    @Override
    public void restart(int node) {
        if (isDone(() -> group.restart(node))) {
            nothingTold();
        }
    }

    @Override
    public void crash(int node) {
        if (isDone(() -> group.crash(node))) {
            pending.get(node).clear();
            nothingTold();
        }
    }

    @Override
    public void pass(int node, int misses) {
        int[] answer = new int[1];
        if (!isDone(() -> answer[0] = group.pass(node, misses))) {
            return;
        }
        findings.due(TOKEN, "it held no token", before[node].holds());
        while (pending.get(node).size() > group.about(node, Scene.PENDING)) {
            got(node, pending.get(node).removeFirst());
        }
        for (int other = 0; other < nodes; other++) {
            findings.due(TOKEN, "told by " + other, toldWords[other] == (other == node ? answer[0] : 0));
        }
        if (!blind) {
            tables.changedByWhatAllHave(before, now, toldSafe);
        }
    }

    @Override
    public void gather(int node) {
        int[] answer = new int[1];
        if (!isDone(() -> answer[0] = group.gather(node)) || blind) {
            return;
        }
        if (answer[0] == 0) {
            nothingTold();
            findings.due(ANEW, "there was no whole ring", before[node].ring().members() == gatheredBy(node));
            return;
        }
        int set = gatheredBy(node);
        Standing.RingName ring = new Standing.RingName(answer[0], set);
        findings.due(ANEW, "a ring that was before", placed.put(ring, new HashMap<>()) == null);
        for (int member = 0; member < nodes; member++) {
            if (ring.has(member)) {
                findings.due(ANEW, "not of the new ring: " + member, now[member].ring().equals(ring));
                findings.due(ANEW, "HOLDS: " + member,
                        now[member].holds() == (member == Integer.numberOfTrailingZeros(set)));
                oldRingTold(member, set);
            } else {
                findings.due(ANEW, "changed: " + member, now[member].equals(before[member]));
            }
        }
        tables.gathered(set, before, now, toldSafe);
    }

    /** At the end of the run: what one member told as SAFE, all have told but those that crashed. */
    void end() {
        for (List<Telling> tellings : told) {
            for (Telling telling : tellings) {
                for (int place : telling.together == 0 ? Set.<Integer>of() : knownOf(telling.ring)) {
                    findings.due(SAFE, "left without place " + place + " of " + telling.ring, telling.toldPlace(place));
                }
            }
        }
    }

    private boolean isDone(Runnable call) {
        before = now;
        try {
            call.run();
        } catch (IndexOutOfBoundsException | IllegalStateException | IllegalArgumentException e) {
            return false;
        }
        now = Standing.all(group, nodes);
        for (int node = 0; node < nodes; node++) {
            hear(node);
        }
        oneToken();
        return true;
    }

    /** A message of this node got a place. */
    private void got(int node, long value) {
        latest(node).own.add(value);
        if (sent.get(value).safe()) {
            tables.update(now[node].ring());
        }
    }

    private void nothingTold() {
        for (int node = 0; node < nodes; node++) {
            findings.due(TOKEN, "told by " + node, toldWords[node] == 0);
        }
        tables.changedByWhatAllHave(before, now, toldSafe);
    }

    private void oneToken() {
        Set<Standing.RingName> held = new HashSet<>();
        for (int node = 0; node < nodes; node++) {
            if (now[node].holds()) {
                findings.due(TOKEN, "two tokens of one ring", held.add(now[node].ring()));
                findings.due(TOKEN, "held by no member", now[node].ring().has(node));
            }
        }
    }

    private void hear(int node) {
        int ever = group.about(node, Scene.LOGGED);
        int size = Math.min(100, ever);
        blind |= ever - heard[node] > 100;
        toldSafe[node] = 0;
        toldWords[node] = 0;
        for (int k = size - (ever - heard[node]); k < size && !blind; k++) {
            int number = (int) group.entry(node, k, 5);
            int placeOrMembers = (int) group.entry(node, k, 1);
            switch ((int) group.entry(node, k, 0)) {
                case RingGroup.RING -> told.get(node).add(new Telling(new Standing.RingName(number, placeOrMembers)));
                case RingGroup.TRANSITION -> {
                    findings.due(LEFT, "a second TRANSITION", latest(node).together == 0);
                    latest(node).together = placeOrMembers;
                }
                default -> hear(node, number, new Telling.Word(placeOrMembers, (int) group.entry(node, k, 2),
                        (int) group.entry(node, k, 3), group.entry(node, k, 4)));
            }
        }
        heard[node] = ever;
    }

    private void hear(int node, int number, Telling.Word word) {
        Telling telling = latest(node);
        Sent message = sent.get(word.value());
        findings.due(LEFT, "told of another ring than the latest", telling.ring.number() == number);
        findings.due(TOKEN, "not as it was sent", message != null && message.sender() == word.sender()
                && message.key() == word.key() && telling.ring.has(word.sender()));
        int next = telling.lastPlace() + 1;
        findings.due(ORDER, "place " + word.place() + " at " + node,
                telling.together == 0 ? word.place() == next : word.place() >= next);
        Telling.Word first = placed.computeIfAbsent(telling.ring, ring -> new HashMap<>())
                .putIfAbsent(word.place(), word);
        findings.due(ORDER, "two messages at place " + word.place(), first == null || first.equals(word));
        telling.words.add(word);
        toldWords[node]++;
        if (telling.together == 0 && message != null && message.safe()) {
            toldSafe[node]++;
            knownOf(telling.ring).add(word.place());
            allHave(telling.ring, word.place());
        }
    }

    private void allHave(Standing.RingName ring, int place) {
        for (int node = 0; node < nodes; node++) {
            if (now[node].ring().equals(ring)) {
                findings.due(SAFE, node + " has not place " + place, group.about(node, Scene.FULL) >= place);
            }
        }
    }

    private void oldRingTold(int node, int set) {
        List<Telling> tellings = told.get(node);
        Standing.RingName old = before[node].ring();
        if (old.isNone()) {
            return;
        }
        Telling telling = tellings.get(tellings.size() - 2);
        findings.due(LEFT, "the RING is not the latest of " + node, latest(node).words.isEmpty());
        findings.due(LEFT, "not told of its old ring: " + node, telling.ring.equals(old));
        for (int other = 0; other < nodes; other++) {
            boolean together = (set >> other & 1) != 0 && before[other].ring().equals(old);
            findings.due(LEFT, "MEMBERS of the TRANSITION", (telling.together >> other & 1) == (together ? 1 : 0));
            if (together) {
                Telling others = told.get(other).get(told.get(other).size() - 2);
                findings.due(LEFT, node + " told not what " + other, telling.words.equals(others.words));
                for (long value : others.own) {
                    findings.due(LEFT, "a message of " + other + " is gone", telling.told(value));
                }
            }
        }
    }

    private int gatheredBy(int node) {
        int set = 0;
        for (int other = 0; other < nodes; other++) {
            if (before[other].up() && before[other].group() == before[node].group()) {
                set |= 1 << other;
            }
        }
        return set;
    }

    private Telling latest(int node) {
        List<Telling> tellings = told.get(node);
        return tellings.get(tellings.size() - 1);
    }

    private Set<Integer> knownOf(Standing.RingName ring) {
        return known.computeIfAbsent(ring, name -> new TreeSet<>());
    }
}
