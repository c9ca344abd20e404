/** Refused calls: the first reason that fits is answered, and nothing changes. */
public final class RefusalsTest {
    private static final int NODES = 20;
    private static final int[] NO_NODES = {Integer.MIN_VALUE, -1, 0, 21, 64, Integer.MAX_VALUE};
    private static final long[] NO_TIMES = {Long.MIN_VALUE, -1, 29, 1031, 30 + (1L << 32), Long.MAX_VALUE};
    private static final int OUT = 3;
    private static final int PASSIVE = 4;

    private static final Check CHECK = new Check();

    /** A call on an object, with its answer. */
    private interface Call {
        int on(BusSleep x);
    }

    public static void main(String[] args) {
        theObject();
        request();
        alive();
        aliveInSleep();
        tick();
        state();
        wake();
        bit();
        needs();
        coordinate();
        passive();
        neverIsNotRefused();
        limp();
        CHECK.end();
    }

    private static void due(String what, long got, long want) {
        CHECK.due(what, got, want);
    }

    private static void refused(String what, int want, Call call) {
        BusSleep tried = busy();
        due(what, call.on(tried), want);
        alike(what, tried, busy());
    }

    /** At time 30 there are nodes in every state, one OUT, and two PASSIVE, of which one is ASKED. */
    private static BusSleep busy() {
        BusSleep x = new BusSleep(NODES);
        x.request(1, true);
        x.bit(1, 0, true);
        x.bit(1, 31, true);
        x.wake(2, 0);
        x.bit(2, 31, true);
        x.bit(OUT, 0, true);
        x.limp(OUT, 0);
        x.passive(PASSIVE, true);
        x.wake(PASSIVE, 0);
        x.passive(5, true);
        x.request(5, true);
        x.wake(9, 0);
        x.bit(9, 7, true);
        x.tick(15);
        x.request(17, true);
        x.bit(17, 7, true);
        x.tick(30);
        return x;
    }

    private static void theObject() {
        BusSleep x = busy();
        int[][] states = {
            {1, Given.NORMAL}, {2, Given.READY}, {OUT, Given.SLEEP}, {PASSIVE, Given.READY},
            {5, Given.SLEEP}, {6, Given.SLEEP}, {9, Given.PREPARED}, {17, Given.REPEAT}};
        for (int[] row : states) {
            due("the object: node " + row[0], x.state(row[0]), row[1]);
        }
        due("the object: the time is 30 or more", x.tick(29), -2);
        due("the object: the time is 30 or less", x.tick(30), 0);
    }

    /** Both answer the same from here on, to calls that see each part of what they hold. */
    private static void alike(String what, BusSleep tried, BusSleep spared) {
        same(what + ", then the time before", tried, spared, x -> x.tick(29));
        same(what + ", then the same time", tried, spared, x -> x.tick(30));
        lookAtNodes(what, 30, tried, spared);
        for (long t = 31; t <= 60; t++) {
            long next = t;
            same(what + ", then tick " + t, tried, spared, x -> x.tick(next));
        }
        lookAtNodes(what, 60, tried, spared);
        same(what + ", then the one that was OUT", tried, spared, x -> x.limp(OUT, 60));
        for (int frame = 0; frame < 16; frame++) {
            int next = frame;
            same(what + ", then frame " + frame, tried, spared, x -> x.wake(next, 61));
        }
        same(what + ", then REPEAT ends", tried, spared, x -> x.tick(81));
        lookAtNodes(what, 81, tried, spared);
        for (int node = 1; node <= NODES; node++) {
            int next = node;
            same(what + ", then alive " + node, tried, spared, x -> x.alive(next, 82));
        }
        same(what + ", then buses 1 and 2", tried, spared, x -> x.coordinate(1, 2));
        same(what + ", then buses 3 and 2", tried, spared, x -> x.coordinate(3, 2));
    }

    private static void lookAtNodes(String what, long t, BusSleep tried, BusSleep spared) {
        for (int node = 1; node <= NODES; node++) {
            int next = node;
            String then = ", at " + t + " of node " + node;
            same(what + then + " the state", tried, spared, x -> x.state(next));
            same(what + then + " the needs", tried, spared, x -> x.needs(next, t));
            same(what + then + " the bits", tried, spared, x -> x.bit(next, 30, false));
        }
    }

    private static void same(String what, BusSleep tried, BusSleep spared, Call call) {
        due(what, call.on(tried), call.on(spared));
    }

    private static void request() {
        for (int node : NO_NODES) {
            refused("request " + node, -1, x -> x.request(node, true));
            refused("request off " + node, -1, x -> x.request(node, false));
        }
        refused("request OUT", -3, x -> x.request(OUT, true));
        refused("request off OUT", -3, x -> x.request(OUT, false));
    }

    private static void alive() {
        for (int node : NO_NODES) {
            refused("alive " + node, -1, x -> x.alive(node, 30));
            refused("alive later " + node, -1, x -> x.alive(node, 31));
            for (long t : NO_TIMES) {
                refused("alive " + node + " at " + t, -1, x -> x.alive(node, t));
            }
        }
        int[] nodes = {1, 6, OUT, PASSIVE};
        for (int node : nodes) {
            for (long t : NO_TIMES) {
                refused("alive " + node + " at " + t, -2, x -> x.alive(node, t));
            }
        }
        long[] times = {30, 31, 1030};
        for (long t : times) {
            refused("alive OUT at " + t, -3, x -> x.alive(OUT, t));
            refused("alive PASSIVE at " + t, -3, x -> x.alive(PASSIVE, t));
            refused("alive PASSIVE in SLEEP at " + t, -3, x -> x.alive(5, t));
        }
    }

    /** This refusal alone lets time go on; but for that it changes nothing either. */
    private static void aliveInSleep() {
        refused("alive in SLEEP, no later", -3, x -> x.alive(6, 30));
        long[] times = {31, 34, 35, 40};
        for (long t : times) {
            BusSleep tried = busy();
            BusSleep spared = busy();
            due("alive in SLEEP at " + t, tried.alive(6, t), -3);
            spared.tick(t);
            alike("alive in SLEEP at " + t, tried, spared);
        }
    }

    private static void tick() {
        for (long t : NO_TIMES) {
            refused("tick " + t, -2, x -> x.tick(t));
        }
    }

    private static void state() {
        for (int node : NO_NODES) {
            refused("state " + node, -1, x -> x.state(node));
        }
    }

    private static void wake() {
        int[] frames = {Integer.MIN_VALUE, -16, -1, 2048, 2049, Integer.MAX_VALUE};
        for (int frame : frames) {
            refused("wake " + frame, -2, x -> x.wake(frame, 30));
            refused("wake later " + frame, -2, x -> x.wake(frame, 31));
        }
        for (long t : NO_TIMES) {
            refused("wake at " + t, -2, x -> x.wake(9, t));
            refused("wake none at " + t, -2, x -> x.wake(2048, t));
        }
    }

    private static void bit() {
        int[] none = {Integer.MIN_VALUE, -1, 32, 33, 63, Integer.MAX_VALUE};
        for (int node : NO_NODES) {
            refused("bit of " + node, -1, x -> x.bit(node, 0, true));
            refused("bit off of " + node, -1, x -> x.bit(node, 0, false));
            for (int b : none) {
                refused("bit " + b + " of " + node, -1, x -> x.bit(node, b, true));
            }
        }
        for (int b : none) {
            refused("bit " + b, -2, x -> x.bit(1, b, true));
            refused("bit off " + b, -2, x -> x.bit(1, b, false));
        }
    }

    private static void needs() {
        for (int node : NO_NODES) {
            refused("needs " + node, -1, x -> x.needs(node, 30));
            refused("needs later " + node, -1, x -> x.needs(node, 31));
            for (long t : NO_TIMES) {
                refused("needs " + node + " at " + t, -1, x -> x.needs(node, t));
            }
        }
        for (long t : NO_TIMES) {
            refused("needs at " + t, -2, x -> x.needs(1, t));
        }
    }

    private static void coordinate() {
        int[] none = {Integer.MIN_VALUE, -1, 0, 4, 8, 9, Integer.MAX_VALUE};
        for (int bus : none) {
            refused("coordinate " + bus + " with 1", -1, x -> x.coordinate(bus, 1));
            refused("coordinate 1 with " + bus, -1, x -> x.coordinate(1, bus));
            refused("coordinate " + bus + " with itself", -1, x -> x.coordinate(bus, bus));
        }
        for (int bus = 1; bus <= 3; bus++) {
            int one = bus;
            refused("coordinate " + bus + " with itself", -2, x -> x.coordinate(one, one));
        }
    }

    private static void passive() {
        for (int node : NO_NODES) {
            refused("passive " + node, -1, x -> x.passive(node, true));
            refused("passive off " + node, -1, x -> x.passive(node, false));
        }
    }

    private static void neverIsNotRefused() {
        int[] none = {Integer.MIN_VALUE, -1, 0, 1, NODES, Integer.MAX_VALUE};
        for (int i : none) {
            refused("never " + i, 0, x -> x.never(i));
        }
    }

    private static void limp() {
        for (int node : NO_NODES) {
            refused("limp " + node, -1, x -> x.limp(node, 30));
            refused("limp later " + node, -1, x -> x.limp(node, 31));
            for (long t : NO_TIMES) {
                refused("limp " + node + " at " + t, -1, x -> x.limp(node, t));
            }
        }
        int[] nodes = {1, OUT};
        for (int node : nodes) {
            for (long t : NO_TIMES) {
                refused("limp " + node + " at " + t, -2, x -> x.limp(node, t));
            }
        }
    }
}
