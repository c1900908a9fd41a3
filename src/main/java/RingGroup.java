/**
 * A group of processes that send to one another along a ring with a token, and a table that only
 * the primary one of their rings changes. Sets of nodes are held as bits: node i is bit i.
 */
public final class RingGroup {
    public static final int NONE = -1;
    public static final int MESSAGE = 1, TRANSITION = 2, RING = 3;

    private static final int LEAST_NODES = 2;
    private static final int MOST_NODES = 8;
    private static final int MOST_WINDOW = 8;
    private static final int GROUPS = 8;
    private static final int KEYS = 16;
    private static final int MOST_PENDING = 12;
    private static final int MOST_PLACES = 100;
    private static final int MOST_LOGGED = 100;
    private static final int ENTRY_PARTS = 6;

    private final int window;
    private final Node[] nodes;
    private final Ring[] rings;
    private final Ring noRing;

    public RingGroup(int nodes, int window) {
        int count = Math.max(LEAST_NODES, Math.min(MOST_NODES, nodes));
        this.window = Math.max(1, Math.min(MOST_WINDOW, window));
        this.noRing = new Ring();
        this.nodes = new Node[count];
        // As many rings as nodes are enough: each node is of one at most.
        this.rings = new Ring[count];
        for (int i = 0; i < count; i++) {
            this.nodes[i] = new Node(i, (1 << count) - 1, noRing);
            this.rings[i] = new Ring();
        }
    }

    public int send(int node, int key, long value, boolean safe)
            throws IndexOutOfBoundsException, IllegalStateException {
        Node sender = nodeAt(node);
        checkKey(key);
        if (!sender.up || sender.pending.isFull()) {
            throw new IllegalStateException("the node is not up or has too much pending");
        }
        return sender.pending.put(new Message(node, key, value, safe));
    }

    public int pass(int node, int misses) throws IndexOutOfBoundsException, IllegalStateException {
        Node passer = nodeAt(node);
        Ring ring = passer.ring;
        if (ring.holder != node) {
            throw new IllegalStateException("the node does not hold a token");
        }
        int receivers = receiversOf(passer) & ~misses;
        sendRequested(passer, receivers);
        sendPending(passer, receivers);
        // The document tells the token this before the sending too, but nobody reads it in between.
        ring.full[node] = passer.full();
        passer.safeTo = Math.max(passer.safeTo, ring.leastFull());
        requestMissing(passer);
        int delivered = passer.deliverInTurn();
        handOn(passer);
        return delivered;
    }

    public int gather(int node) throws IndexOutOfBoundsException, IllegalStateException {
        Node caller = nodeAt(node);
        if (!caller.up) {
            throw new IllegalStateException("the node is not up");
        }
        int gathered = upInGroup(caller.group);
        if (isWhole(caller.ring, gathered)) {
            return 0;
        }
        boolean becomesPrimary = isQuorum(gathered, foremost(caller, gathered).voteMembers);
        endOldRings(gathered);
        if (becomesPrimary) {
            // Asked anew: who applied most may have changed as the old rings ended.
            bringTablesUpToDate(foremost(caller, gathered), gathered);
        }
        return beginRing(gathered, becomesPrimary);
    }

    public void part(int node, int group) throws IndexOutOfBoundsException, IllegalArgumentException {
        Node mover = nodeAt(node);
        if (group < 0 || group >= GROUPS) {
            throw new IllegalArgumentException("there is no such group");
        }
        mover.group = group;
    }

    public void crash(int node) throws IndexOutOfBoundsException, IllegalStateException {
        Node crashing = nodeAt(node);
        if (!crashing.up) {
            throw new IllegalStateException("the node is not up");
        }
        crashing.up = false;
        crashing.pending.drop();
        crashing.leaveRing(noRing);
    }

    public void restart(int node) throws IndexOutOfBoundsException, IllegalStateException {
        Node starting = nodeAt(node);
        if (starting.up) {
            throw new IllegalStateException("the node is up");
        }
        starting.up = true;
    }

    public int about(int node, int what) throws IndexOutOfBoundsException, IllegalArgumentException {
        Node asked = nodeAt(node);
        switch (what) {
            case 0: return asked.up ? 1 : 0;
            case 1: return asked.group;
            case 2: return asked.ring.number;
            case 3: return asked.ring.members;
            case 4: return asked.pending.count;
            case 5: return asked.full();
            case 6: return asked.delivered;
            case 7: return asked.safeTo;
            case 8: return asked.replica.applied;
            case 9: return asked.voteNumber;
            case 10: return asked.voteMembers;
            case 11: return asked.highest;
            case 12: return asked.ring.holder == node ? 1 : 0;
            case 13: return asked.log.ever;
            default: throw new IllegalArgumentException("nothing is told of that number");
        }
    }

    public long table(int node, int key) throws IndexOutOfBoundsException {
        Node asked = nodeAt(node);
        checkKey(key);
        return asked.replica.values[key];
    }

    public long mark(int node) throws IndexOutOfBoundsException {
        return nodeAt(node).replica.mark;
    }

    public long entry(int node, int k, int what)
            throws IndexOutOfBoundsException, IllegalArgumentException {
        Log log = nodeAt(node).log;
        if (k < 0 || k >= log.size()) {
            throw new IndexOutOfBoundsException("there is no such entry");
        }
        if (what < 0 || what >= ENTRY_PARTS) {
            throw new IllegalArgumentException("an entry has no such part");
        }
        return log.cell(k, what);
    }

    public boolean primary(int node) throws IndexOutOfBoundsException {
        return nodeAt(node).isOfPrimary();
    }

    private Node nodeAt(int node) {
        if (node < 0 || node >= nodes.length) {
            throw new IndexOutOfBoundsException("there is no such node");
        }
        return nodes[node];
    }

    private static void checkKey(int key) {
        if (key < 0 || key >= KEYS) {
            throw new IndexOutOfBoundsException("there is no such key");
        }
    }

    private static boolean isIn(int node, int set) {
        return (set & 1 << node) != 0;
    }

    private static int leastOf(int set) {
        for (int node = 0; node < MOST_NODES; node++) {
            if (isIn(node, set)) {
                return node;
            }
        }
        return NONE;
    }

    /** Whether what one node sends can come to the other. */
    private static boolean reaches(Node from, Node to) {
        return to.up && to.group == from.group && to.ring == from.ring;
    }

    private int receiversOf(Node sender) {
        int receivers = 0;
        for (Node other : nodes) {
            if (other != sender && reaches(sender, other)) {
                receivers |= 1 << other.number;
            }
        }
        return receivers;
    }

    private void sendRequested(Node passer, int receivers) {
        Ring ring = passer.ring;
        for (int place = 1; place <= ring.lastPlace; place++) {
            if (ring.requested[place] && passer.has[place] != null) {
                giveTo(receivers, place, passer.has[place]);
                ring.requested[place] = false;
            }
        }
    }

    private void sendPending(Node passer, int receivers) {
        Ring ring = passer.ring;
        for (int sent = 0; sent < window && ring.lastPlace < MOST_PLACES; sent++) {
            Message message = passer.pending.takeFirst();
            if (message == null) {
                return;
            }
            ring.lastPlace++;
            giveTo(receivers | 1 << passer.number, ring.lastPlace, message);
        }
    }

    private void giveTo(int receivers, int place, Message message) {
        for (Node node : nodes) {
            if (isIn(node.number, receivers)) {
                node.receive(place, message);
            }
        }
    }

    private static void requestMissing(Node passer) {
        Ring ring = passer.ring;
        for (int place = 1; place <= ring.lastPlace; place++) {
            if (passer.has[place] == null) {
                ring.requested[place] = true;
            }
        }
    }

    private void handOn(Node passer) {
        Ring ring = passer.ring;
        Node next = nodes[ring.memberBehind(passer.number)];
        ring.holder = reaches(passer, next) ? next.number : NONE;
    }

    private int upInGroup(int group) {
        int found = 0;
        for (Node node : nodes) {
            if (node.up && node.group == group) {
                found |= 1 << node.number;
            }
        }
        return found;
    }

    private int ofRing(Ring ring, int set) {
        int found = 0;
        for (Node node : nodes) {
            if (node.ring == ring && isIn(node.number, set)) {
                found |= 1 << node.number;
            }
        }
        return found;
    }

    private boolean isWhole(Ring ring, int gathered) {
        return ring.members == gathered && ring.holder != NONE && ofRing(ring, gathered) == gathered;
    }

    /** Of those gathered with the newest vote the one that applied most, of several the least. */
    private Node foremost(Node caller, int gathered) {
        Node best = caller;
        for (Node node : nodes) {
            if (isIn(node.number, gathered) && node.isAheadOf(best)) {
                best = node;
            }
        }
        return best;
    }

    private static boolean isQuorum(int gathered, int voters) {
        int twice = 2 * Integer.bitCount(voters & gathered);
        int all = Integer.bitCount(voters);
        return twice > all || twice == all && isIn(leastOf(voters), gathered);
    }

    /** In the order of nodes, not of rings: a ring's end changes its own nodes alone, so no order of rings shows. */
    private void endOldRings(int gathered) {
        for (Node node : nodes) {
            if (node.ring != noRing && isIn(node.number, gathered)) {
                int together = ofRing(node.ring, gathered);
                if (leastOf(together) == node.number) {
                    endRing(together);
                }
            }
        }
    }

    private void endRing(int together) {
        shareAll(together);
        for (Node node : nodes) {
            if (isIn(node.number, together)) {
                node.deliverInTurn();
                node.log.add(TRANSITION, together, 0, 0, 0L, node.ring.number);
                node.deliverLeft(together);
            }
        }
    }

    private void shareAll(int together) {
        int greatest = 0;
        for (Node node : nodes) {
            if (isIn(node.number, together)) {
                greatest = Math.max(greatest, node.safeTo);
                for (int place = 1; place <= MOST_PLACES; place++) {
                    if (node.has[place] != null) {
                        giveTo(together, place, node.has[place]);
                    }
                }
            }
        }
        for (Node node : nodes) {
            if (isIn(node.number, together)) {
                node.safeTo = greatest;
            }
        }
    }

    private void bringTablesUpToDate(Node best, int gathered) {
        for (int place = best.replica.done + 1; place <= MOST_PLACES; place++) {
            Message update = keptByOne(gathered, best.voteNumber, place);
            if (update != null) {
                best.replica.apply(place, update);
            }
        }
        for (Node node : nodes) {
            if (isIn(node.number, gathered)) {
                node.replica.copyTable(best.replica);
            }
        }
    }

    private Message keptByOne(int set, int voteNumber, int place) {
        for (Node node : nodes) {
            if (isIn(node.number, set) && node.voteNumber == voteNumber && node.replica.kept[place] != null) {
                return node.replica.kept[place];
            }
        }
        return null;
    }

    private int beginRing(int gathered, boolean becomesPrimary) {
        int number = 0;
        for (Node node : nodes) {
            if (isIn(node.number, gathered)) {
                number = Math.max(number, node.highest);
                node.leaveRing(noRing);
            }
        }
        number++;
        Ring ring = unusedRing();
        ring.begin(number, gathered);
        for (Node node : nodes) {
            if (isIn(node.number, gathered)) {
                node.joinRing(ring, becomesPrimary);
            }
        }
        return number;
    }

    private Ring unusedRing() {
        int all = (1 << nodes.length) - 1;
        // Those who gather are of no ring by now, so fewer rings than nodes are in use.
        Ring unused = rings[0];
        for (Ring ring : rings) {
            if (ofRing(ring, all) == 0) {
                unused = ring;
            }
        }
        return unused;
    }

    private static final class Message {
        final int sender;
        final int key;
        final long value;
        final boolean safe;

        Message(int sender, int key, long value, boolean safe) {
            this.sender = sender;
            this.key = key;
            this.value = value;
            this.safe = safe;
        }
    }

    /** The messages of a node that wait for the token, the oldest first. */
    private static final class Pending {
        final Message[] waiting = new Message[MOST_PENDING];
        int count;

        boolean isFull() {
            return count >= MOST_PENDING;
        }

        int put(Message message) {
            waiting[count] = message;
            count++;
            return count;
        }

        Message takeFirst() {
            if (count == 0) {
                return null;
            }
            Message first = waiting[0];
            count--;
            for (int i = 0; i < count; i++) {
                waiting[i] = waiting[i + 1];
            }
            return first;
        }

        void drop() {
            count = 0;
        }
    }

    /** A ring with its token. The object that stands for no ring has number 0 and no members. */
    private static final class Ring {
        final boolean[] requested = new boolean[MOST_PLACES + 1];
        final int[] full = new int[MOST_NODES];
        int number;
        int members;
        int holder = NONE;
        int lastPlace;

        void begin(int newNumber, int newMembers) {
            number = newNumber;
            members = newMembers;
            holder = leastOf(newMembers);
            lastPlace = 0;
            for (int place = 0; place <= MOST_PLACES; place++) {
                requested[place] = false;
            }
            for (int node = 0; node < MOST_NODES; node++) {
                full[node] = 0;
            }
        }

        int memberBehind(int node) {
            for (int step = 1; step < MOST_NODES; step++) {
                int next = (node + step) % MOST_NODES;
                if (isIn(next, members)) {
                    return next;
                }
            }
            return node;
        }

        int leastFull() {
            int least = MOST_PLACES;
            for (int node = 0; node < MOST_NODES; node++) {
                if (isIn(node, members)) {
                    least = Math.min(least, full[node]);
                }
            }
            return least;
        }
    }

    /** A node's table with what belongs to it; it outlives crashes. */
    private static final class Replica {
        final long[] values = new long[KEYS];
        final Message[] kept = new Message[MOST_PLACES + 1];
        int applied;
        long mark;
        int done;

        void apply(int place, Message update) {
            values[update.key] = update.value;
            applied++;
            mark = mark * 31 + update.key * 17 + update.value;
            done = place;
        }

        void copyTable(Replica other) {
            for (int key = 0; key < KEYS; key++) {
                values[key] = other.values[key];
            }
            applied = other.applied;
            mark = other.mark;
        }

        void forgetKept() {
            done = 0;
            for (int place = 0; place <= MOST_PLACES; place++) {
                kept[place] = null;
            }
        }
    }

    /** The latest entries, in a row that is used round and round. */
    private static final class Log {
        final long[] cells = new long[MOST_LOGGED * ENTRY_PARTS];
        int ever;

        void add(int kind, int placeOrMembers, int sender, int key, long value, int number) {
            int at = Math.floorMod(ever, MOST_LOGGED) * ENTRY_PARTS;
            cells[at] = kind;
            cells[at + 1] = placeOrMembers;
            cells[at + 2] = sender;
            cells[at + 3] = key;
            cells[at + 4] = value;
            cells[at + 5] = number;
            ever++;
        }

        int size() {
            return Math.min(ever, MOST_LOGGED);
        }

        long cell(int k, int what) {
            return cells[Math.floorMod(ever - size() + k, MOST_LOGGED) * ENTRY_PARTS + what];
        }
    }

    private static final class Node {
        final int number;
        final Pending pending = new Pending();
        final Replica replica = new Replica();
        final Log log = new Log();
        final Message[] has = new Message[MOST_PLACES + 1];
        boolean up = true;
        int group;
        Ring ring;
        int highest;
        int voteNumber;
        int voteMembers;
        int delivered;
        int safeTo;

        Node(int number, int voteMembers, Ring noRing) {
            this.number = number;
            this.voteMembers = voteMembers;
            this.ring = noRing;
        }

        boolean isOfPrimary() {
            return ring.number > 0 && ring.number == voteNumber;
        }

        boolean isAheadOf(Node other) {
            if (voteNumber != other.voteNumber) {
                return voteNumber > other.voteNumber;
            }
            if (replica.applied != other.replica.applied) {
                return replica.applied > other.replica.applied;
            }
            return number < other.number;
        }

        int full() {
            int place = 0;
            while (place < MOST_PLACES && has[place + 1] != null) {
                place++;
            }
            return place;
        }

        void receive(int place, Message message) {
            has[place] = message;
            if (message.safe && isOfPrimary()) {
                replica.kept[place] = message;
            }
        }

        int deliverInTurn() {
            int before = delivered;
            for (int place = before + 1; place <= MOST_PLACES; place++) {
                Message message = has[place];
                if (message == null || message.safe && place > safeTo) {
                    break;
                }
                tell(place, message);
                if (message.safe && isOfPrimary()) {
                    replica.apply(place, message);
                }
            }
            return delivered - before;
        }

        /** What is delivered here changes no table: nobody knows whether all members have it. */
        void deliverLeft(int together) {
            boolean behindGap = false;
            for (int place = delivered + 1; place <= MOST_PLACES; place++) {
                Message message = has[place];
                if (message == null) {
                    behindGap = true;
                } else if (!behindGap || isIn(message.sender, together)) {
                    tell(place, message);
                }
            }
        }

        void tell(int place, Message message) {
            delivered = place;
            log.add(MESSAGE, place, message.sender, message.key, message.value, ring.number);
        }

        void leaveRing(Ring noRing) {
            if (ring.holder == number) {
                ring.holder = NONE;
            }
            ring = noRing;
            delivered = 0;
            safeTo = 0;
            for (int place = 0; place <= MOST_PLACES; place++) {
                has[place] = null;
            }
        }

        void joinRing(Ring next, boolean isPrimary) {
            ring = next;
            highest = next.number;
            if (isPrimary) {
                voteNumber = next.number;
                voteMembers = next.members;
                replica.forgetKept();
            }
            log.add(RING, next.members, 0, 0, 0L, next.number);
        }
    }
}
