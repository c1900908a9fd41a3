import java.util.ArrayDeque;
import java.util.ArrayList;
import java.util.Comparator;
import java.util.HashMap;
import java.util.List;
import java.util.Map;
import java.util.TreeMap;
import java.util.TreeSet;

/**
 * The document's Terms once more, word by word and with the Java library, as another program to
 * hold RingGroup against. It takes no care of speed or room.
 */
final class Model {
    record Msg(int sender, int key, long value, boolean safe) {
    }

    static final class Ring {
        int number;
        TreeSet<Integer> members = new TreeSet<>();
        Node holder;
        int given;
        TreeSet<Integer> requested = new TreeSet<>();
        Map<Node, Integer> full = new HashMap<>();
    }

    static final class Node {
        int index;
        boolean up = true;
        int group;
        Ring ring;
        int highest;
        long[] table = new long[16];
        int applied;
        long mark;
        int vote;
        TreeSet<Integer> voters = new TreeSet<>();
        TreeMap<Integer, Msg> keptBehind = new TreeMap<>();
        int done;
        ArrayDeque<Msg> pending = new ArrayDeque<>();
        TreeMap<Integer, Msg> has = new TreeMap<>();
        int delivered;
        int safeTo;
        List<long[]> log = new ArrayList<>();

        int full() {
            int place = 0;
            while (has.containsKey(place + 1)) {
                place++;
            }
            return place;
        }

        TreeMap<Integer, Msg> kept() {
            if (ring == null || ring.number != vote) {
                return keptBehind;
            }
            TreeMap<Integer, Msg> safeOnes = new TreeMap<>();
            has.forEach((place, msg) -> {
                if (msg.safe) {
                    safeOnes.put(place, msg);
                }
            });
            return safeOnes;
        }

        void leave() {
            keptBehind = kept();
            if (ring != null && ring.holder == this) {
                ring.holder = null;
            }
            ring = null;
            has.clear();
            delivered = 0;
            safeTo = 0;
        }

        void apply(int place, Msg msg) {
            table[msg.key] = msg.value;
            applied += 1;
            mark = mark * 31 + msg.key * 17L + msg.value;
            done = place;
        }

        void tell(int place, Msg msg) {
            log.add(new long[] {1, place, msg.sender, msg.key, msg.value, ring.number});
            delivered = place;
        }

        int deliver() {
            int count = 0;
            for (;;) {
                int place = delivered + 1;
                Msg msg = has.get(place);
                if (msg == null || !(!msg.safe || place <= safeTo)) {
                    return count;
                }
                tell(place, msg);
                count++;
                if (msg.safe && vote == ring.number) {
                    apply(place, msg);
                }
            }
        }
    }

    final List<Node> nodes = new ArrayList<>();
    final int window;

    Model(int n, int window) {
        n = n < 2 ? 2 : n > 8 ? 8 : n;
        this.window = window < 1 ? 1 : window > 8 ? 8 : window;
        for (int i = 0; i < n; i++) {
            Node node = new Node();
            node.index = i;
            for (int j = 0; j < n; j++) {
                node.voters.add(j);
            }
            nodes.add(node);
        }
    }

    Node node(int i) {
        if (i < 0 || i >= nodes.size()) {
            throw new IndexOutOfBoundsException();
        }
        return nodes.get(i);
    }

    static void state(boolean ok) {
        if (!ok) {
            throw new IllegalStateException();
        }
    }

    static void argument(boolean ok) {
        if (!ok) {
            throw new IllegalArgumentException();
        }
    }

    static void bounds(boolean ok) {
        if (!ok) {
            throw new IndexOutOfBoundsException();
        }
    }

    int send(int i, int key, long value, boolean safe) {
        Node node = node(i);
        bounds(key >= 0 && key <= 15);
        state(node.up && node.pending.size() < 12);
        node.pending.addLast(new Msg(i, key, value, safe));
        return node.pending.size();
    }

    int pass(int i, int misses) {
        Node node = node(i);
        state(node.ring != null && node.ring.holder == node);
        Ring ring = node.ring;
        List<Node> receivers = new ArrayList<>();
        for (int m : ring.members) {
            Node other = nodes.get(m);
            if (other != node && other.up && other.group == node.group && other.ring == ring
                    && (misses >>> m) % 2 == 0) {
                receivers.add(other);
            }
        }
        ring.full.put(node, node.full());
        for (int place : new ArrayList<>(ring.requested)) {
            if (node.has.containsKey(place)) {
                receivers.forEach(r -> r.has.put(place, node.has.get(place)));
                ring.requested.remove(place);
            }
        }
        for (int k = 0; k < window && !node.pending.isEmpty() && ring.given < 100; k++) {
            Msg msg = node.pending.removeFirst();
            int place = ++ring.given;
            node.has.put(place, msg);
            receivers.forEach(r -> r.has.put(place, msg));
        }
        ring.full.put(node, node.full());
        int least = 1000;
        for (int m : ring.members) {
            least = Math.min(least, ring.full.getOrDefault(nodes.get(m), 0));
        }
        if (least > node.safeTo) {
            node.safeTo = least;
        }
        for (int place = 1; place <= ring.given; place++) {
            if (!node.has.containsKey(place)) {
                ring.requested.add(place);
            }
        }
        int count = node.deliver();
        Integer higher = ring.members.higher(i);
        Node next = nodes.get(higher == null ? ring.members.first() : higher);
        ring.holder = next.up && next.group == node.group && next.ring == ring ? next : null;
        return count;
    }

    int gather(int i) {
        Node caller = node(i);
        state(caller.up);
        List<Node> c = new ArrayList<>();
        TreeSet<Integer> numbers = new TreeSet<>();
        for (Node node : nodes) {
            if (node.up && node.group == caller.group) {
                c.add(node);
                numbers.add(node.index);
            }
        }
        boolean same = caller.ring != null && caller.ring.members.equals(numbers) && caller.ring.holder != null;
        for (Node node : c) {
            same = same && node.ring == caller.ring;
        }
        if (same) {
            return 0;
        }
        Node v = c.stream().max(Comparator.<Node>comparingInt(n -> n.vote).thenComparingInt(n -> n.applied)
                .thenComparingInt(n -> -n.index)).orElseThrow();
        int voteNumber = v.vote;
        TreeSet<Integer> present = new TreeSet<>(v.voters);
        present.retainAll(numbers);
        boolean primary = 2 * present.size() > v.voters.size()
                || 2 * present.size() == v.voters.size() && numbers.contains(v.voters.first());
        endRings(c);
        if (primary) {
            catchUp(c, voteNumber);
        }
        Ring ring = new Ring();
        ring.number = 1 + c.stream().mapToInt(n -> n.highest).max().orElseThrow();
        ring.members.addAll(numbers);
        ring.holder = c.get(0);
        for (Node node : c) {
            node.leave();
            node.ring = ring;
            node.highest = ring.number;
            if (primary) {
                node.vote = ring.number;
                node.voters = new TreeSet<>(numbers);
                node.keptBehind = new TreeMap<>();
                node.done = 0;
            }
            node.log.add(new long[] {3, bits(numbers), 0, 0, 0, ring.number});
        }
        return ring.number;
    }

    private static void endRings(List<Node> c) {
        List<Ring> rings = new ArrayList<>();
        for (Node node : c) {
            if (node.ring != null && !rings.contains(node.ring)) {
                rings.add(node.ring);
            }
        }
        rings.sort(Comparator.<Ring>comparingInt(r -> r.number).thenComparingInt(r -> r.members.first()));
        for (Ring ring : rings) {
            List<Node> t = c.stream().filter(n -> n.ring == ring).toList();
            TreeSet<Integer> together = new TreeSet<>();
            TreeMap<Integer, Msg> all = new TreeMap<>();
            int safeTo = 0;
            for (Node node : t) {
                together.add(node.index);
                all.putAll(node.has);
                safeTo = Math.max(safeTo, node.safeTo);
            }
            for (Node node : t) {
                node.has = new TreeMap<>(all);
                node.safeTo = safeTo;
            }
            for (Node node : t) {
                node.deliver();
                node.log.add(new long[] {2, bits(together), 0, 0, 0, ring.number});
                int missing = node.full() + 1;
                for (Map.Entry<Integer, Msg> e : new TreeMap<>(node.has.tailMap(node.delivered, false)).entrySet()) {
                    if (e.getKey() < missing || together.contains(e.getValue().sender)) {
                        node.tell(e.getKey(), e.getValue());
                    }
                }
            }
        }
    }

    private static void catchUp(List<Node> c, int voteNumber) {
        List<Node> voters = c.stream().filter(n -> n.vote == voteNumber).toList();
        Node best = voters.get(0);
        TreeMap<Integer, Msg> kept = new TreeMap<>();
        for (Node node : voters) {
            if (node.applied > best.applied) {
                best = node;
            }
            kept.putAll(node.kept());
        }
        for (Map.Entry<Integer, Msg> e : kept.tailMap(best.done, false).entrySet()) {
            best.apply(e.getKey(), e.getValue());
        }
        for (Node node : c) {
            node.table = best.table.clone();
            node.applied = best.applied;
            node.mark = best.mark;
        }
    }

    static int bits(TreeSet<Integer> set) {
        return set.stream().mapToInt(i -> 1 << i).sum();
    }

    void part(int i, int group) {
        Node node = node(i);
        argument(group >= 0 && group <= 7);
        node.group = group;
    }

    void crash(int i) {
        Node node = node(i);
        state(node.up);
        node.leave();
        node.up = false;
        node.pending.clear();
    }

    void restart(int i) {
        Node node = node(i);
        state(!node.up);
        node.up = true;
    }

    int about(int i, int what) {
        Node node = node(i);
        argument(what >= 0 && what <= 13);
        Ring ring = node.ring;
        int[] all = {node.up ? 1 : 0, node.group, ring == null ? 0 : ring.number, ring == null ? 0 : bits(ring.members),
            node.pending.size(), node.full(), node.delivered, node.safeTo, node.applied, node.vote, bits(node.voters),
            node.highest, ring != null && ring.holder == node ? 1 : 0, node.log.size()};
        return all[what];
    }

    long table(int i, int key) {
        Node node = node(i);
        bounds(key >= 0 && key <= 15);
        return node.table[key];
    }

    long mark(int i) {
        return node(i).mark;
    }

    long entry(int i, int k, int what) {
        List<long[]> log = node(i).log;
        int from = Math.max(0, log.size() - 100);
        bounds(k >= 0 && k < log.size() - from);
        argument(what >= 0 && what <= 5);
        return log.get(from + k)[what];
    }

    boolean primary(int i) {
        Node node = node(i);
        return node.ring != null && node.vote == node.ring.number;
    }
}
