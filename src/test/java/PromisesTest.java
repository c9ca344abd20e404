/** Every promise by hand: ordinary inputs, the edges that the document names, and wrong inputs. */
public final class PromisesTest {
    private static final int SLEEP = 0;
    private static final int PREPARED = 1;
    private static final int READY = 2;
    private static final int NORMAL = 3;
    private static final int REPEAT = 4;

    private static final Check CHECK = new Check();

    public static void main(String[] args) {
        newObject();
        numbersOfNodes();
        requestWakes();
        requestWakesPrepared();
        requestOfPassive();
        requestRefused();
        aliveIsHeard();
        aliveWakesPrepared();
        aliveIsNotARowInATick();
        aliveRefused();
        refusedAliveAndTime();
        tickCounts();
        tickRefused();
        rowsInTicks();
        rowOfOneThatWokeInTheTick();
        rowAfterPassive();
        firstRowOfOneThatWasPassive();
        rowAgainAfterLimp();
        stillNeedsAllReady();
        orderInATick();
        orderInATickTheOtherWay();
        stateOfNodes();
        wakeByFrame();
        wakeEdges();
        wakeRefused();
        bitsOfANode();
        bitRefused();
        needsOfCalledBits();
        needsTimes();
        needsOverBuses();
        needsRefused();
        coordinateCounts();
        coordinateRefused();
        coordinatedBusesWait();
        busesApartDoNotWait();
        preparedOnesDoNotHold();
        passiveNodes();
        passiveAloneDoesNotWake();
        neverSleeping();
        limpOutAndIn();
        limpKeepsBitsAndPassive();
        limpEndsWaiting();
        limpRefused();
        sleepsTogether();
        CHECK.end();
    }

    private static void due(String what, long got, long want) {
        CHECK.due(what, got, want);
    }

    private static void due(String what, boolean got, boolean want) {
        CHECK.due(what, got, want);
    }

    /** The node comes to PREPARED at tick 29: its last row is at 19. */
    private static BusSleep preparedAt29(int nodes, int node) {
        BusSleep x = new BusSleep(nodes);
        x.wake(node, 0);
        due("to PREPARED: state at 28", stateAt(x, node, 28), READY);
        due("to PREPARED: state at 29", stateAt(x, node, 29), PREPARED);
        return x;
    }

    private static int stateAt(BusSleep x, int node, long t) {
        x.tick(t);
        return x.state(node);
    }

    // Promise 1

    private static void newObject() {
        BusSleep x = new BusSleep(3);
        for (int node = 1; node <= 3; node++) {
            due("new: state", x.state(node), SLEEP);
            due("new: needs", x.needs(node, 0), 0);
        }
        due("new: sleeps", x.sleeps(), true);
        due("new: never", x.never(0), 0);
        due("new: time is 0, so -1 is too early", x.tick(-1), -2);
        due("new: time is 0, so 1001 is too far", x.tick(1001), -2);
        due("new: tick(1000)", x.tick(1000), 0);
    }

    private static void numbersOfNodes() {
        int[][] rows = {
            {1, 1}, {2, 2}, {8, 8}, {9, 9}, {63, 63}, {64, 64},
            {0, 8}, {-1, 8}, {65, 8}, {Integer.MAX_VALUE, 8}, {Integer.MIN_VALUE, 8}};
        for (int[] row : rows) {
            BusSleep x = new BusSleep(row[0]);
            due("nodes " + row[0] + ": last", x.state(row[1]), SLEEP);
            due("nodes " + row[0] + ": one more", x.state(row[1] + 1), -1);
            int buses = (row[1] + 7) / 8;
            due("nodes " + row[0] + ": last bus", x.coordinate(buses, buses), -2);
            due("nodes " + row[0] + ": one bus more", x.coordinate(buses + 1, 1), -1);
        }
    }

    // Promise 2

    private static void requestWakes() {
        BusSleep x = new BusSleep(10);
        due("request: off in SLEEP", x.request(1, false), SLEEP);
        due("request: on in SLEEP", x.request(1, true), REPEAT);
        due("request: the others sleep", x.state(2), SLEEP);
        due("request: on again", x.request(1, true), REPEAT);
        due("request: at 19", stateAt(x, 1, 19), REPEAT);
        due("request: at 20", stateAt(x, 1, 20), NORMAL);
        due("request: on in NORMAL", x.request(1, true), NORMAL);
        due("request: off in NORMAL", x.request(1, false), NORMAL);
        due("request: at 21", stateAt(x, 1, 21), READY);
        due("request: on in READY", x.request(1, true), READY);
        due("request: at 22", stateAt(x, 1, 22), NORMAL);
        due("request: off again", x.request(1, false), NORMAL);
        // Rows at 1, 4, .. 19 and 22.
        due("request: at 31", stateAt(x, 1, 31), READY);
        due("request: at 32", stateAt(x, 1, 32), PREPARED);
        due("request: off in PREPARED", x.request(1, false), PREPARED);
        due("request: at 36", stateAt(x, 1, 36), PREPARED);
        due("request: at 37", stateAt(x, 1, 37), SLEEP);
    }

    private static void requestWakesPrepared() {
        BusSleep x = preparedAt29(1, 1);
        due("request: on in PREPARED", x.request(1, true), REPEAT);
        due("request: SINCE is now: at 48", stateAt(x, 1, 48), REPEAT);
        due("request: SINCE is now: at 49", stateAt(x, 1, 49), NORMAL);
    }

    private static void requestOfPassive() {
        BusSleep x = new BusSleep(2);
        x.passive(1, true);
        due("request: PASSIVE does not WANT", x.request(1, true), SLEEP);
        x.passive(1, false);
        due("request: WANTS, still in SLEEP", stateAt(x, 1, 5), SLEEP);
        due("request: asked again it wakes", x.request(1, true), REPEAT);
    }

    private static void requestRefused() {
        BusSleep x = new BusSleep(10);
        int[] unknown = {0, -1, 11, 64, Integer.MAX_VALUE, Integer.MIN_VALUE};
        for (int node : unknown) {
            due("request(" + node + ")", x.request(node, true), -1);
            due("request(" + node + ", false)", x.request(node, false), -1);
        }
        x.limp(2, 0);
        due("request: OUT", x.request(2, true), -3);
        due("request: OUT, off", x.request(2, false), -3);
        x.limp(2, 0);
        due("request: a refused one asked nothing", x.state(2), SLEEP);
        x.wake(2, 0);
        due("request: so it does not WANT", stateAt(x, 2, 20), READY);
    }

    // Promise 3 and what a row does

    private static void aliveIsHeard() {
        BusSleep x = new BusSleep(16);
        x.request(1, true);
        due("alive: nobody else is awake", x.alive(1, 1), 0);
        x.request(2, true);
        x.request(8, true);
        x.request(9, true);
        x.passive(8, true);
        due("alive: two on its bus, a PASSIVE one too", x.alive(1, 2), 2);
        due("alive: none on the other bus", x.alive(9, 2), 0);
        x.coordinate(1, 2);
        due("alive: rows stay on their bus", x.alive(9, 2), 0);
        x.limp(2, 3);
        due("alive: OUT hears nothing", x.alive(1, 3), 1);
    }

    private static void aliveWakesPrepared() {
        BusSleep x = new BusSleep(8);
        x.wake(1, 0);
        x.wake(2, 0);
        // Last rows at 19.
        due("alive: PREPARED at 29", stateAt(x, 1, 29), PREPARED);
        due("alive: by a PREPARED one", x.alive(2, 30), 1);
        due("alive: the other wakes", x.state(1), REPEAT);
        due("alive: the sender does not", x.state(2), PREPARED);
        due("alive: the rest sleeps on", x.state(3), SLEEP);
        due("alive: the woken one's row wakes the sender", x.tick(31), 1);
        due("alive: the sender is in REPEAT", x.state(2), REPEAT);
        due("alive: SINCE of the first is 30", stateAt(x, 1, 49), REPEAT);
        due("alive: READY at 50", stateAt(x, 1, 50), READY);
        due("alive: SINCE of the second is 31", x.state(2), REPEAT);
        due("alive: READY at 51", stateAt(x, 2, 51), READY);

        BusSleep y = new BusSleep(8);
        y.wake(1, 0);
        y.tick(21);
        due("alive: READY sends too", y.alive(1, 25), 0);
        due("alive: its own HEARD, at 34", stateAt(y, 1, 34), READY);
        due("alive: its own HEARD, at 35", stateAt(y, 1, 35), PREPARED);

        BusSleep z = new BusSleep(8);
        z.wake(1, 0);
        z.wake(2, 0);
        z.tick(21);
        z.alive(1, 25);
        z.limp(1, 25);
        due("alive: HEARD of others, at 34", stateAt(z, 2, 34), READY);
        due("alive: HEARD of others, at 35", stateAt(z, 2, 35), PREPARED);
    }

    private static void aliveIsNotARowInATick() {
        BusSleep x = new BusSleep(2);
        x.request(1, true);
        x.bit(1, 0, true);
        x.bit(2, 0, true);
        // Its rows in ticks are at 1 and 4, whatever it sends besides.
        x.alive(1, 3);
        x.tick(4);
        x.limp(1, 4);
        due("alive besides: a row at 4", x.needs(2, 14), 1);
        due("alive besides: none after 4", x.needs(2, 15), 0);
    }

    private static void aliveRefused() {
        BusSleep x = new BusSleep(10);
        x.tick(50);
        int[] unknown = {0, -1, 11, Integer.MAX_VALUE, Integer.MIN_VALUE};
        for (int node : unknown) {
            due("alive(" + node + ")", x.alive(node, 50), -1);
            due("alive(" + node + ") before its time", x.alive(node, 49), -1);
        }
        x.request(1, true);
        long[] times = {49, 1051, -1, Long.MAX_VALUE, Long.MIN_VALUE};
        for (long t : times) {
            due("alive at " + t, x.alive(1, t), -2);
        }
        x.passive(1, true);
        due("alive: the time before PASSIVE", x.alive(1, 49), -2);
        due("alive: PASSIVE", x.alive(1, 50), -3);
        x.limp(2, 50);
        due("alive: the time before OUT", x.alive(2, 49), -2);
        due("alive: OUT", x.alive(2, 50), -3);
        due("alive: SLEEP", x.alive(3, 50), -3);
    }

    private static void refusedAliveAndTime() {
        BusSleep x = new BusSleep(4);
        x.passive(1, true);
        x.limp(2, 0);
        due("alive: PASSIVE refuses", x.alive(1, 10), -3);
        due("alive: and time stays", x.tick(0), 0);
        due("alive: OUT refuses", x.alive(2, 10), -3);
        due("alive: and time stays", x.tick(0), 0);
        due("alive: SLEEP refuses", x.alive(3, 10), -3);
        due("alive: but time has gone on", x.tick(9), -2);
        due("alive: to 10", x.tick(10), 0);

        BusSleep y = preparedAt29(1, 1);
        due("alive: in SLEEP by then", y.alive(1, 34), -3);
        due("alive: the node sleeps", y.state(1), SLEEP);
    }

    // Promise 4 and what a tick does

    private static void tickCounts() {
        BusSleep x = new BusSleep(9);
        due("tick: nothing at all", x.tick(7), 0);
        due("tick: to the same time", x.tick(7), 0);
        x.wake(9, 7);
        due("tick: 26", x.tick(26), 0);
        due("tick: 27, to READY", x.tick(27), 1);
        // Rows at 8, 11, .. 26.
        due("tick: 35", x.tick(35), 0);
        due("tick: 36, to PREPARED", x.tick(36), 1);
        due("tick: 40", x.tick(40), 0);
        due("tick: 41, to SLEEP", x.tick(41), 1);
        x.wake(9, 41);
        due("tick: all three at once", x.tick(1041), 3);
        due("tick: what other calls let happen is not counted", x.wake(9, 1041), 1);
        x.needs(1, 1070);
        due("tick: only PREPARED to SLEEP is left", x.tick(1100), 1);
    }

    private static void tickRefused() {
        BusSleep x = new BusSleep(2);
        long[] first = {-1, 1001, Long.MAX_VALUE, Long.MIN_VALUE};
        for (long t : first) {
            due("tick(" + t + ")", x.tick(t), -2);
        }
        due("tick: 1000 on", x.tick(1000), 0);
        long[] second = {999, 0, 2001, Long.MAX_VALUE, Long.MIN_VALUE};
        for (long t : second) {
            due("tick(" + t + ")", x.tick(t), -2);
        }
        due("tick: 1000 on again", x.tick(2000), 0);
    }

    /** Rows are seen by the bits that they call: at 1, then each third tick. */
    private static void rowsInTicks() {
        for (int end = 1; end <= 40; end++) {
            BusSleep x = new BusSleep(1);
            x.bit(1, 5, true);
            x.request(1, true);
            x.tick(end);
            x.limp(1, end);
            long last = end - (end - 1) % 3;
            due("rows until " + end + ": called at " + last, x.needs(1, last + 10), 1);
            due("rows until " + end + ": not later", x.needs(1, last + 11), 0);
        }
        BusSleep y = new BusSleep(1);
        y.bit(1, 5, true);
        y.request(1, true);
        due("rows: none before the next tick", y.needs(1, 0), 0);
        due("rows: in the next tick", y.needs(1, 1), 1);
    }

    /** Woken at tick 31 by node 1, node 2 sends at 32, 35, .. 50, and not at 31. */
    private static void rowOfOneThatWokeInTheTick() {
        BusSleep x = new BusSleep(8);
        x.wake(2, 0);
        x.tick(30);
        due("woken in a tick: PREPARED", x.state(2), PREPARED);
        x.request(1, true);
        due("woken in a tick", x.tick(31), 1);
        due("woken in a tick: REPEAT", x.state(2), REPEAT);
        x.limp(1, 31);
        due("woken in a tick: REPEAT at 50", stateAt(x, 2, 50), REPEAT);
        due("woken in a tick: READY at 51", stateAt(x, 2, 51), READY);
        due("woken in a tick: last row at 50: at 59", stateAt(x, 2, 59), READY);
        due("woken in a tick: last row at 50: at 60", stateAt(x, 2, 60), PREPARED);

        BusSleep y = new BusSleep(8);
        y.wake(1, 0);
        y.tick(30);
        y.request(2, true);
        due("woken by a later one", y.tick(31), 1);
        y.limp(2, 31);
        due("woken by a later one: at 59", stateAt(y, 1, 59), READY);
        due("woken by a later one: at 60", stateAt(y, 1, 60), PREPARED);
    }

    private static void rowAfterPassive() {
        BusSleep x = new BusSleep(2);
        x.bit(1, 0, true);
        x.request(1, true);
        x.tick(25);
        x.passive(1, true);
        // Its last row was at 25; READY at 26, NORMAL at 27, and the next row at 28.
        x.tick(26);
        x.passive(1, false);
        due("row after PASSIVE: NORMAL", stateAt(x, 1, 27), NORMAL);
        x.limp(1, 27);
        due("row after PASSIVE: at 35", x.needs(1, 35), 1);
        due("row after PASSIVE: none at 27", x.needs(1, 36), 0);
    }

    private static void firstRowOfOneThatWasPassive() {
        BusSleep x = new BusSleep(2);
        x.bit(1, 0, true);
        x.request(1, true);
        x.passive(1, true);
        due("PASSIVE sends nothing", x.needs(1, 7), 0);
        x.passive(1, false);
        due("no row before the next tick", x.needs(1, 7), 0);
        due("a row at once", x.needs(1, 8), 1);
        x.limp(1, 10);
        due("no other before 11: called at 18", x.needs(1, 18), 1);
        due("no other before 11: not at 19", x.needs(1, 19), 0);
    }

    /** It sent at 4, went out and in, and woke at 4: it sends at 5 and not only at 7. */
    private static void rowAgainAfterLimp() {
        BusSleep x = new BusSleep(1);
        x.bit(1, 0, true);
        x.request(1, true);
        x.limp(1, 4);
        x.limp(1, 4);
        x.request(1, true);
        x.tick(5);
        x.limp(1, 5);
        due("row after waking again: at 15", x.needs(1, 15), 1);
        due("row after waking again: at 16", x.needs(1, 16), 0);
    }

    private static void stillNeedsAllReady() {
        BusSleep x = new BusSleep(8);
        x.wake(1, 0);
        x.request(2, true);
        x.passive(2, true);
        x.tick(19);
        // The PASSIVE node hears node 1's rows, the last one at 19.
        due("STILL: not before 29: node 1", stateAt(x, 1, 28), READY);
        due("STILL: not before 29: node 2", x.state(2), READY);
        due("STILL: both at 29", x.tick(29), 2);

        BusSleep y = new BusSleep(8);
        y.wake(1, 0);
        y.passive(1, true);
        y.tick(1);
        y.wake(2, 1);
        y.passive(2, true);
        // Nobody sends, so HEARD is when they woke; but REPEAT of node 2 until 21 is not STILL.
        due("STILL: READY at 20", stateAt(y, 1, 20), READY);
        due("STILL: node 1 looks before node 2 leaves REPEAT", stateAt(y, 1, 21), READY);
        due("STILL: node 2 is READY", y.state(2), READY);
        due("STILL: PREPARED at 22", stateAt(y, 1, 22), PREPARED);
        due("STILL: node 2 too", y.state(2), PREPARED);
    }

    /** Node 1 leaves REPEAT before node 2 looks, so node 2 is PREPARED in the same tick. */
    private static void orderInATick() {
        BusSleep x = new BusSleep(2);
        x.wake(2, 0);
        x.passive(2, true);
        x.tick(1);
        x.wake(1, 1);
        x.passive(1, true);
        due("order: node 2 READY at 20", stateAt(x, 2, 20), READY);
        due("order: two changes at 21", x.tick(21), 2);
        due("order: node 1 READY at 21", x.state(1), READY);
        due("order: node 2 PREPARED at 21", x.state(2), PREPARED);
        due("order: node 1 PREPARED at 22", stateAt(x, 1, 22), PREPARED);
    }

    /** A READY node that WANTS comes to NORMAL first, so later ones are not STILL. */
    private static void orderInATickTheOtherWay() {
        BusSleep x = new BusSleep(2);
        x.wake(1, 0);
        x.wake(2, 0);
        x.tick(28);
        x.request(1, true);
        due("order: only node 1 changes at 29", x.tick(29), 1);
        due("order: node 2 stays READY", x.state(2), READY);

        BusSleep y = new BusSleep(2);
        y.wake(1, 0);
        y.wake(2, 0);
        y.tick(28);
        y.request(2, true);
        // Node 1 is PREPARED at first, then woken by node 2's row: three changes.
        due("order: node 1 is PREPARED before node 2 WANTS", y.tick(29), 3);
        due("order: node 1 woke", y.state(1), REPEAT);
        due("order: node 2 is NORMAL", y.state(2), NORMAL);
    }

    // Promise 5

    private static void stateOfNodes() {
        BusSleep x = new BusSleep(64);
        x.request(64, true);
        due("state: REPEAT", x.state(64), REPEAT);
        due("state: SLEEP", x.state(63), SLEEP);
        due("state: NORMAL", stateAt(x, 64, 20), NORMAL);
        x.request(64, false);
        due("state: READY", stateAt(x, 64, 21), READY);
        due("state: PREPARED", stateAt(x, 64, 29), PREPARED);
        due("state: SLEEP again", stateAt(x, 64, 34), SLEEP);
        int[] unknown = {0, -1, 65, Integer.MAX_VALUE, Integer.MIN_VALUE};
        for (int node : unknown) {
            due("state(" + node + ")", x.state(node), -1);
        }
        x.limp(1, 34);
        due("state: OUT is in SLEEP", x.state(1), SLEEP);
    }

    // Promise 6

    private static void wakeByFrame() {
        BusSleep x = new BusSleep(64);
        due("wake: 1, 17, 33, 49", x.wake(1, 5), 4);
        due("wake: they are awake", x.wake(1, 5), 0);
        for (int node = 1; node <= 64; node++) {
            due("wake: state of " + node, x.state(node), node % 16 == 1 ? REPEAT : SLEEP);
        }
        due("wake: 0 means 16, 32, 48, 64", x.wake(0, 5), 4);
        due("wake: 16 is in REPEAT", x.state(16), REPEAT);
        due("wake: 2047 means 15, 31, 47, 63", x.wake(2047, 5), 4);
        due("wake: 63 is in REPEAT", x.state(63), REPEAT);
        due("wake: SINCE is the time, at 24", stateAt(x, 1, 24), REPEAT);
        due("wake: SINCE is the time, at 25", stateAt(x, 1, 25), READY);
    }

    private static void wakeEdges() {
        BusSleep x = preparedAt29(16, 1);
        x.limp(2, 29);
        due("wake: PREPARED", x.wake(17, 30), 1);
        due("wake: PREPARED is in REPEAT", x.state(1), REPEAT);
        due("wake: OUT", x.wake(2, 30), 0);
        due("wake: OUT stays in SLEEP", x.state(2), SLEEP);
        x.passive(3, true);
        due("wake: PASSIVE wakes", x.wake(3, 30), 1);
        due("wake: PASSIVE is in REPEAT", x.state(3), REPEAT);
        due("wake: READY is not woken", stateAt(x, 1, 50), READY);
        due("wake: READY is not woken", x.wake(1, 50), 0);
        due("wake: READY stays", x.state(1), READY);
        due("wake: time goes on first", x.wake(1, 80), 1);
        BusSleep y = new BusSleep(8);
        due("wake: no node has this remainder", y.wake(9, 0), 0);
    }

    private static void wakeRefused() {
        BusSleep x = new BusSleep(16);
        x.tick(10);
        int[] frames = {-1, 2048, -16, Integer.MAX_VALUE, Integer.MIN_VALUE};
        for (int frame : frames) {
            due("wake(" + frame + ")", x.wake(frame, 11), -2);
        }
        long[] times = {9, 1011, -1, Long.MAX_VALUE, Long.MIN_VALUE};
        for (long t : times) {
            due("wake at " + t, x.wake(1, t), -2);
        }
        due("wake: refusals change nothing", x.tick(10), 0);
        due("wake: all sleep", x.sleeps(), true);
    }

    // Promise 7

    private static void bitsOfANode() {
        BusSleep x = new BusSleep(2);
        for (int b = 0; b < 32; b++) {
            due("bit: one more", x.bit(1, b, true), b + 1);
            due("bit: the same again", x.bit(1, b, true), b + 1);
        }
        due("bit: another node has none", x.bit(2, 0, false), 0);
        for (int b = 31; b >= 0; b--) {
            due("bit: one less", x.bit(1, b, false), b);
            due("bit: off again", x.bit(1, b, false), b);
        }
        x.limp(2, 0);
        due("bit: OUT", x.bit(2, 31, true), 1);
    }

    private static void bitRefused() {
        BusSleep x = new BusSleep(2);
        int[] wrong = {-1, 32, 33, 64, Integer.MAX_VALUE, Integer.MIN_VALUE};
        for (int b : wrong) {
            due("bit(1, " + b + ")", x.bit(1, b, true), -2);
            due("bit(3, " + b + ")", x.bit(3, b, true), -1);
        }
        due("bit(0, 0)", x.bit(0, 0, true), -1);
        due("bit: refusals change nothing", x.bit(1, 0, false), 0);
    }

    // Promise 8

    private static void needsOfCalledBits() {
        BusSleep x = new BusSleep(16);
        x.bit(1, 31, true);
        x.bit(1, 4, true);
        x.bit(2, 31, true);
        x.bit(3, 4, true);
        x.bit(4, 5, true);
        x.bit(9, 31, true);
        x.request(1, true);
        due("needs: not yet", x.needs(2, 0), 0);
        due("needs: bit 31", x.needs(2, 1), 1);
        due("needs: bit 4", x.needs(3, 1), 1);
        due("needs: its own", x.needs(1, 1), 1);
        due("needs: another bit", x.needs(4, 1), 0);
        due("needs: no bit", x.needs(5, 1), 0);
        due("needs: another bus", x.needs(9, 1), 0);
        x.bit(2, 31, false);
        due("needs: no longer its bit", x.needs(2, 1), 0);
        x.bit(5, 4, true);
        due("needs: a bit from now on", x.needs(5, 1), 1);
    }

    private static void needsTimes() {
        BusSleep x = new BusSleep(2);
        x.bit(1, 0, true);
        x.bit(2, 0, true);
        x.wake(1, 0);
        due("needs: who does not WANT calls nothing", x.needs(2, 10), 0);
        x.alive(1, 10);
        due("needs: nor by alive", x.needs(2, 10), 0);
        x.request(1, true);
        due("needs: no row between", x.needs(2, 12), 0);
        x.alive(1, 12);
        due("needs: called by alive", x.needs(2, 12), 1);
        x.request(1, false);
        due("needs: 10 ticks ago", x.needs(2, 22), 1);
        due("needs: 11 ticks ago", x.needs(2, 23), 0);
    }

    private static void needsOverBuses() {
        BusSleep x = new BusSleep(32);
        x.bit(1, 7, true);
        x.bit(9, 7, true);
        x.bit(17, 7, true);
        x.bit(25, 7, true);
        x.request(9, true);
        due("needs: apart", x.needs(1, 1), 0);
        x.coordinate(1, 2);
        due("needs: coordinated afterwards", x.needs(1, 1), 1);
        due("needs: the third is apart", x.needs(17, 1), 0);
        x.coordinate(3, 1);
        due("needs: by one in between", x.needs(17, 1), 1);
        due("needs: the fourth is apart", x.needs(25, 1), 0);
    }

    private static void needsRefused() {
        BusSleep x = new BusSleep(10);
        x.tick(20);
        int[] unknown = {0, -1, 11, Integer.MAX_VALUE, Integer.MIN_VALUE};
        for (int node : unknown) {
            due("needs(" + node + ")", x.needs(node, 20), -1);
            due("needs(" + node + ") before its time", x.needs(node, 19), -1);
        }
        long[] times = {19, 1021, -1, Long.MAX_VALUE, Long.MIN_VALUE};
        for (long t : times) {
            due("needs at " + t, x.needs(1, t), -2);
        }
        due("needs: time stays", x.tick(20), 0);
        due("needs: 1000 on", x.needs(1, 1020), 0);
        due("needs: time has gone on", x.tick(1019), -2);
    }

    // Promise 9

    private static void coordinateCounts() {
        BusSleep x = new BusSleep(64);
        due("coordinate: 1 2", x.coordinate(1, 2), 2);
        due("coordinate: 3 4", x.coordinate(3, 4), 2);
        due("coordinate: 8 7", x.coordinate(8, 7), 2);
        due("coordinate: 2 1 again", x.coordinate(2, 1), 2);
        due("coordinate: 4 1", x.coordinate(4, 1), 4);
        due("coordinate: 2 3 are one", x.coordinate(2, 3), 4);
        due("coordinate: 5 6", x.coordinate(5, 6), 2);
        due("coordinate: 7 5", x.coordinate(7, 5), 4);
        due("coordinate: 6 2", x.coordinate(6, 2), 8);
        due("coordinate: one with itself, after all", x.coordinate(6, 6), -2);
    }

    private static void coordinateRefused() {
        BusSleep x = new BusSleep(17);
        int[] unknown = {0, -1, 4, 9, Integer.MAX_VALUE, Integer.MIN_VALUE};
        for (int bus : unknown) {
            due("coordinate(1, " + bus + ")", x.coordinate(1, bus), -1);
            due("coordinate(" + bus + ", 1)", x.coordinate(bus, 1), -1);
            due("coordinate(" + bus + ", itself)", x.coordinate(bus, bus), -1);
        }
        due("coordinate(1, 1)", x.coordinate(1, 1), -2);
        due("coordinate(3, 3)", x.coordinate(3, 3), -2);
        due("coordinate: refusals change nothing", x.coordinate(1, 3), 2);
    }

    private static void coordinatedBusesWait() {
        BusSleep x = new BusSleep(24);
        x.coordinate(1, 2);
        x.coordinate(2, 3);
        x.wake(1, 0);
        x.limp(17, 0);
        x.request(18, true);
        due("coordinated: READY waits for bus 3", stateAt(x, 1, 500), READY);
        x.request(18, false);
        // Node 18's rows are at 1, 4, .. 499; it is READY at 501.
        due("coordinated: HEARD of node 18 holds node 1 too", stateAt(x, 1, 508), READY);
        due("coordinated: STILL at 509", x.tick(509), 2);
        due("coordinated: PREPARED", x.state(1), PREPARED);
        due("coordinated: rows of one bus are not heard on another", x.alive(18, 510), 0);
        due("coordinated: so node 1 does not wake", x.state(1), PREPARED);
        due("coordinated: to SLEEP", x.tick(514), 2);
    }

    private static void busesApartDoNotWait() {
        BusSleep x = new BusSleep(16);
        x.wake(1, 0);
        x.request(9, true);
        due("apart: PREPARED", stateAt(x, 1, 29), PREPARED);
        due("apart: rows do not wake", stateAt(x, 1, 34), SLEEP);
        due("apart: the other is NORMAL", x.state(9), NORMAL);

        BusSleep y = new BusSleep(16);
        y.wake(1, 0);
        y.wake(9, 5);
        due("apart: READY and heard of late on the other bus", stateAt(y, 9, 28), READY);
        due("apart: does not hold this one", stateAt(y, 1, 29), PREPARED);
    }

    /** Node 9 is heard at 31, but it is PREPARED: only READY nodes keep their buses from being STILL. */
    private static void preparedOnesDoNotHold() {
        BusSleep x = new BusSleep(16);
        x.wake(9, 0);
        x.wake(1, 3);
        due("PREPARED holds nobody: node 9", stateAt(x, 9, 29), PREPARED);
        x.coordinate(1, 2);
        due("PREPARED holds nobody: alive", x.alive(9, 31), 0);
        due("PREPARED holds nobody: node 1 at 31", x.state(1), READY);
        due("PREPARED holds nobody: node 1 at 32", stateAt(x, 1, 32), PREPARED);
    }

    // Promise 10

    private static void passiveNodes() {
        BusSleep x = new BusSleep(8);
        due("passive: in SLEEP", x.passive(1, true), SLEEP);
        due("passive: twice", x.passive(1, true), SLEEP);
        due("passive: off", x.passive(1, false), SLEEP);
        x.request(1, true);
        x.tick(20);
        due("passive: in NORMAL", x.passive(1, true), NORMAL);
        due("passive: to READY, for it does not WANT", stateAt(x, 1, 21), READY);
        due("passive: off in READY", x.passive(1, false), READY);
        due("passive: ASKED counts again", stateAt(x, 1, 22), NORMAL);
        int[] unknown = {0, -1, 9, Integer.MAX_VALUE, Integer.MIN_VALUE};
        for (int node : unknown) {
            due("passive(" + node + ")", x.passive(node, true), -1);
        }
        x.limp(2, 22);
        due("passive: OUT", x.passive(2, true), SLEEP);
        // A PASSIVE node sends no rows, so node 4, PREPARED, is not woken by it.
        BusSleep y = preparedAt29(8, 4);
        y.passive(3, true);
        y.wake(3, 29);
        due("passive: no row in ticks", stateAt(y, 4, 33), PREPARED);
        due("passive: so the other sleeps", stateAt(y, 4, 34), SLEEP);
        due("passive: it hears", y.wake(5, 34), 1);
        due("passive: it hears", y.alive(5, 34), 1);
    }

    private static void passiveAloneDoesNotWake() {
        BusSleep x = new BusSleep(1);
        x.passive(1, true);
        x.request(1, true);
        x.wake(1, 0);
        due("passive: READY at 20", stateAt(x, 1, 20), READY);
        due("passive: PREPARED at 21", stateAt(x, 1, 21), PREPARED);
        due("passive: off in PREPARED", x.passive(1, false), PREPARED);
        due("passive: PREPARED at 25", stateAt(x, 1, 25), PREPARED);
        due("passive: to SLEEP all the same", stateAt(x, 1, 26), SLEEP);
        due("passive: in SLEEP though it WANTS", stateAt(x, 1, 60), SLEEP);
    }

    // Promise 11

    private static void neverSleeping() {
        BusSleep x = new BusSleep(20);
        x.request(20, true);
        x.request(3, true);
        x.tick(1);
        x.request(5, true);
        x.tick(219);
        due("never: 199 ticks", x.never(0), 0);
        x.tick(220);
        due("never: 200 ticks", x.never(0), 3);
        due("never: the next", x.never(1), 20);
        due("never: no more", x.never(2), 0);
        x.tick(221);
        due("never: in the order of numbers", x.never(1), 5);
        due("never: the last", x.never(2), 20);
        int[] wrong = {-1, 3, 64, Integer.MAX_VALUE, Integer.MIN_VALUE};
        for (int i : wrong) {
            due("never(" + i + ")", x.never(i), 0);
        }
        x.request(3, false);
        due("never: in NORMAL until the next tick", x.never(0), 3);
        x.tick(222);
        due("never: READY does not count", x.never(0), 5);
        x.request(3, true);
        x.tick(422);
        due("never: from anew, 199 ticks", x.never(0), 5);
        x.tick(423);
        due("never: from anew, 200 ticks", x.never(0), 3);
        x.limp(3, 423);
        due("never: OUT does not count", x.never(0), 5);
    }

    // Promise 12

    private static void limpOutAndIn() {
        BusSleep x = new BusSleep(8);
        x.request(1, true);
        x.request(2, true);
        x.tick(30);
        due("limp: out", x.limp(1, 30), 1);
        due("limp: in SLEEP at once", x.state(1), SLEEP);
        due("limp: the other hears nothing of it", x.alive(2, 30), 0);
        due("limp: in", x.limp(1, 31), 0);
        due("limp: still in SLEEP", x.state(1), SLEEP);
        x.wake(1, 31);
        due("limp: no longer ASKED", stateAt(x, 1, 51), READY);
        due("limp: out again", x.limp(1, 51), 1);
        due("limp: and in again", x.limp(1, 51), 0);
        due("limp: time goes on first", x.limp(2, 60), 1);
        due("limp: to 60", x.tick(59), -2);
    }

    private static void limpKeepsBitsAndPassive() {
        BusSleep x = new BusSleep(2);
        x.bit(1, 0, true);
        x.bit(1, 1, true);
        x.passive(1, true);
        x.limp(1, 0);
        x.limp(1, 0);
        due("limp: BITS stay", x.bit(1, 1, true), 2);
        due("limp: PASSIVE stays", x.request(1, true), SLEEP);
    }

    private static void limpEndsWaiting() {
        BusSleep x = new BusSleep(8);
        x.wake(1, 0);
        x.request(2, true);
        due("limp: READY waits", stateAt(x, 1, 100), READY);
        x.limp(2, 100);
        // Node 2's last row was at 100.
        due("limp: at 109", stateAt(x, 1, 109), READY);
        due("limp: at 110", stateAt(x, 1, 110), PREPARED);
    }

    private static void limpRefused() {
        BusSleep x = new BusSleep(10);
        x.tick(20);
        int[] unknown = {0, -1, 11, Integer.MAX_VALUE, Integer.MIN_VALUE};
        for (int node : unknown) {
            due("limp(" + node + ")", x.limp(node, 20), -1);
            due("limp(" + node + ") before its time", x.limp(node, 19), -1);
        }
        long[] times = {19, 1021, -1, Long.MAX_VALUE, Long.MIN_VALUE};
        for (long t : times) {
            due("limp at " + t, x.limp(1, t), -2);
        }
        due("limp: refusals change nothing", x.request(1, true), REPEAT);
        due("limp: 1000 on", x.limp(1, 1020), 1);
    }

    // Promise 13

    private static void sleepsTogether() {
        BusSleep x = new BusSleep(9);
        due("sleeps: at first", x.sleeps(), true);
        x.wake(9, 0);
        due("sleeps: REPEAT", x.sleeps(), false);
        x.tick(20);
        due("sleeps: READY", x.sleeps(), false);
        x.tick(29);
        due("sleeps: PREPARED", x.sleeps(), false);
        x.tick(33);
        due("sleeps: at 33", x.sleeps(), false);
        x.tick(34);
        due("sleeps: at 34", x.sleeps(), true);
        x.request(1, true);
        x.tick(60);
        due("sleeps: NORMAL", x.sleeps(), false);
        x.limp(1, 60);
        due("sleeps: OUT", x.sleeps(), true);
    }
}
