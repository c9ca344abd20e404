/** Nodes on buses that keep one another awake, and go to sleep together. */
public final class BusSleep {
    private static final int SLEEP = 0;
    private static final int PREPARED = 1;
    private static final int READY = 2;
    private static final int NORMAL = 3;
    private static final int REPEAT = 4;

    private static final int UNKNOWN_NUMBER = -1;
    private static final int OUTSIDE_RANGE = -2;
    private static final int WRONG_STATE = -3;

    private static final int MOST_NODES = 64;
    private static final int USUAL_NODES = 8;
    private static final int NODES_PER_BUS = 8;
    private static final int BITS = 32;
    private static final int LAST_FRAME = 2047;
    private static final int FRAME_CLASSES = 16;

    private static final long REPEAT_TICKS = 20;
    private static final long PREPARED_TICKS = 5;
    private static final long ROW_TICKS = 3;
    private static final long STILL_TICKS = 10;
    private static final long CALLED_TICKS = 10;
    private static final long NEVER_TICKS = 200;
    private static final long MOST_TICKS_ON = 1000;

    /** So long before time 0 that no call can take it for a recent one. */
    private static final long NOT_CALLED_YET = -1000;

    private final Node[] nodes;
    private final Bus[] buses;
    private long now;
    private int changes;

    public BusSleep(int nodes) {
        int count = nodes >= 1 && nodes <= MOST_NODES ? nodes : USUAL_NODES;
        this.nodes = new Node[count];
        this.buses = new Bus[(count + NODES_PER_BUS - 1) / NODES_PER_BUS];
        for (int b = 0; b < this.buses.length; b++) {
            int first = b * NODES_PER_BUS;
            Bus bus = new Bus(b, Math.min(NODES_PER_BUS, count - first));
            this.buses[b] = bus;
            for (int k = 0; k < bus.members.length; k++) {
                Node node = new Node(first + k + 1, bus);
                bus.members[k] = node;
                this.nodes[first + k] = node;
            }
        }
    }

    public int request(int node, boolean on) {
        if (!isNode(node)) {
            return UNKNOWN_NUMBER;
        }
        Node asked = nodes[node - 1];
        if (asked.out) {
            return WRONG_STATE;
        }
        asked.asked = on;
        if (asked.wants() && asked.canWake()) {
            wakeUp(asked);
        }
        return asked.state;
    }

    public int alive(int node, long t) {
        if (!isNode(node)) {
            return UNKNOWN_NUMBER;
        }
        if (!isTime(t)) {
            return OUTSIDE_RANGE;
        }
        Node sender = nodes[node - 1];
        // Time cannot change these two, so this refusal leaves time where it is.
        if (sender.out || sender.passive) {
            return WRONG_STATE;
        }
        goOn(t);
        if (sender.state == SLEEP) {
            return WRONG_STATE;
        }
        return sendRow(sender);
    }

    public int tick(long t) {
        if (!isTime(t)) {
            return OUTSIDE_RANGE;
        }
        int before = changes;
        goOn(t);
        return changes - before;
    }

    public int state(int node) {
        if (!isNode(node)) {
            return UNKNOWN_NUMBER;
        }
        return nodes[node - 1].state;
    }

    public int wake(int frame, long t) {
        if (frame < 0 || frame > LAST_FRAME || !isTime(t)) {
            return OUTSIDE_RANGE;
        }
        goOn(t);
        int woken = 0;
        for (Node node : nodes) {
            boolean meant = node.number % FRAME_CLASSES == frame % FRAME_CLASSES;
            if (meant && !node.out && node.canWake()) {
                wakeUp(node);
                woken++;
            }
        }
        return woken;
    }

    public int bit(int node, int b, boolean on) {
        if (!isNode(node)) {
            return UNKNOWN_NUMBER;
        }
        if (b < 0 || b >= BITS) {
            return OUTSIDE_RANGE;
        }
        Node owner = nodes[node - 1];
        int mask = 1 << b;
        owner.bits = on ? owner.bits | mask : owner.bits & ~mask;
        return Integer.bitCount(owner.bits);
    }

    public int needs(int node, long t) {
        if (!isNode(node)) {
            return UNKNOWN_NUMBER;
        }
        if (!isTime(t)) {
            return OUTSIDE_RANGE;
        }
        goOn(t);
        Node owner = nodes[node - 1];
        for (Bus bus : buses) {
            if (bus.group == owner.bus.group && wasCalled(bus, owner.bits)) {
                return 1;
            }
        }
        return 0;
    }

    public int coordinate(int bus, int other) {
        if (!isBus(bus) || !isBus(other)) {
            return UNKNOWN_NUMBER;
        }
        if (bus == other) {
            return OUTSIDE_RANGE;
        }
        int group = buses[bus - 1].group;
        int joining = buses[other - 1].group;
        int size = 0;
        for (Bus each : buses) {
            if (each.group == joining) {
                each.group = group;
            }
            if (each.group == group) {
                size++;
            }
        }
        return size;
    }

    public int passive(int node, boolean on) {
        if (!isNode(node)) {
            return UNKNOWN_NUMBER;
        }
        Node listener = nodes[node - 1];
        listener.passive = on;
        return listener.state;
    }

    public int never(int i) {
        int left = i;
        for (Node node : nodes) {
            if (node.state == NORMAL && now - node.since >= NEVER_TICKS) {
                if (left == 0) {
                    return node.number;
                }
                left--;
            }
        }
        return 0;
    }

    public int limp(int node, long t) {
        if (!isNode(node)) {
            return UNKNOWN_NUMBER;
        }
        if (!isTime(t)) {
            return OUTSIDE_RANGE;
        }
        goOn(t);
        Node limping = nodes[node - 1];
        limping.out = !limping.out;
        if (!limping.out) {
            return 0;
        }
        limping.asked = false;
        comeTo(limping, SLEEP);
        return 1;
    }

    public boolean sleeps() {
        for (Node node : nodes) {
            if (node.state != SLEEP) {
                return false;
            }
        }
        return true;
    }

    private boolean isNode(int number) {
        return number >= 1 && number <= nodes.length;
    }

    private boolean isBus(int number) {
        return number >= 1 && number <= buses.length;
    }

    private boolean isTime(long t) {
        return t >= now && t - now <= MOST_TICKS_ON;
    }

    private void goOn(long t) {
        for (long next = now + 1; next <= t && !sleeps(); next++) {
            now = next;
            changeStates();
            sendRows();
        }
        // Nodes in SLEEP are moved only by calls, so the ticks that are left are empty.
        now = t;
    }

    private void changeStates() {
        for (Node node : nodes) {
            changeState(node);
        }
    }

    private void changeState(Node node) {
        long ticks = now - node.since;
        switch (node.state) {
            case REPEAT:
                if (ticks >= REPEAT_TICKS) {
                    comeTo(node, node.wants() ? NORMAL : READY);
                }
                break;
            case NORMAL:
                if (!node.wants()) {
                    comeTo(node, READY);
                }
                break;
            case READY:
                if (node.wants()) {
                    comeTo(node, NORMAL);
                } else if (isStill(node.bus.group)) {
                    comeTo(node, PREPARED);
                }
                break;
            case PREPARED:
                if (ticks >= PREPARED_TICKS) {
                    comeTo(node, SLEEP);
                }
                break;
            default:
                break;
        }
    }

    private void sendRows() {
        for (Node node : nodes) {
            if (node.keepsAwake() && !node.passive && now >= node.nextRow) {
                sendRow(node);
                // Only rows in a tick set the pace; those of alive come besides.
                node.nextRow = now + ROW_TICKS;
            }
        }
    }

    /** Answers how many others heard the row; nodes that are OUT are in SLEEP, so they never do. */
    private int sendRow(Node sender) {
        int hearers = 0;
        sender.heard = now;
        for (Node other : sender.bus.members) {
            if (other != sender && other.state != SLEEP) {
                hear(other);
                hearers++;
            }
        }
        if (sender.wants()) {
            callBits(sender.bus, sender.bits);
        }
        return hearers;
    }

    private void hear(Node node) {
        node.heard = now;
        if (node.state == PREPARED) {
            wakeUp(node);
        }
    }

    private void wakeUp(Node node) {
        comeTo(node, REPEAT);
        node.heard = now;
        // A node that a row wakes in the midst of a tick must wait for the next one too.
        node.nextRow = now + 1;
    }

    private void comeTo(Node node, int state) {
        if (node.keepsAwake()) {
            node.bus.keepingAwake--;
        }
        node.state = state;
        node.since = now;
        if (node.keepsAwake()) {
            node.bus.keepingAwake++;
        }
        changes++;
    }

    private boolean isStill(int group) {
        for (Bus bus : buses) {
            if (bus.group == group && bus.keepingAwake > 0) {
                return false;
            }
        }
        for (Node node : nodes) {
            if (node.bus.group == group && node.state == READY && now - node.heard < STILL_TICKS) {
                return false;
            }
        }
        return true;
    }

    private void callBits(Bus bus, int bits) {
        for (int b = 0; b < bus.called.length; b++) {
            if ((bits >>> b & 1) == 1) {
                bus.called[b] = now;
            }
        }
    }

    private boolean wasCalled(Bus bus, int bits) {
        for (int b = 0; b < bus.called.length; b++) {
            if ((bits >>> b & 1) == 1 && now - bus.called[b] <= CALLED_TICKS) {
                return true;
            }
        }
        return false;
    }

    private static final class Bus {
        final Node[] members;
        final long[] called;
        /** Buses that are one by being coordinated bear the same group. */
        int group;
        /** How many members are in REPEAT or NORMAL, so that READY nodes need not look at each. */
        int keepingAwake;

        Bus(int group, int size) {
            this.group = group;
            this.members = new Node[Math.max(0, size)];
            this.called = new long[BITS];
            for (int b = 0; b < BITS; b++) {
                this.called[b] = NOT_CALLED_YET;
            }
        }
    }

    private static final class Node {
        final int number;
        final Bus bus;
        int state;
        long since;
        long heard;
        long nextRow;
        boolean asked;
        boolean passive;
        boolean out;
        int bits;

        Node(int number, Bus bus) {
            this.number = number;
            this.bus = bus;
        }

        boolean wants() {
            return asked && !passive;
        }

        boolean keepsAwake() {
            return state == REPEAT || state == NORMAL;
        }

        boolean canWake() {
            return state == SLEEP || state == PREPARED;
        }
    }
}
