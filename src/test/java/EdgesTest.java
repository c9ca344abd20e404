/** The sentences of promises 1 to 13 that name a boundary: each has a test, on both sides. */
public final class EdgesTest {
    private static final int[] STATES = {Given.SLEEP, Given.PREPARED, Given.READY, Given.NORMAL, Given.REPEAT};

    private static final Check CHECK = new Check();

    public static void main(String[] args) {
        soManyNodes();
        eightForAnyOtherNumber();
        requestInEachState();
        requestFromNowOn();
        requestOfOneThatIsOut();
        aliveHeardByNoneToSeven();
        aliveInEachState();
        aliveSleepsAtThatTime();
        tickCountsEachChange();
        tickDoesNotCountOtherCalls();
        stateOfFirstAndLast();
        wakeFrames();
        wakeByRemainder();
        wakeInEachState();
        bitOneToThirtyTwo();
        bitOfOneNodeAlone();
        needs10TicksAgo();
        needsNoneOfNoBits();
        needsOneOfItsBits();
        coordinateOneToEight();
        coordinateOneBus();
        passiveInEachState();
        passiveFromNowOn();
        neverFrom200On();
        neverIth();
        neverInNormalAlone();
        limpOutAndInAgain();
        limpIsNotAsked();
        sleepsAllOrNot();
        CHECK.end();
    }

    private static void due(String what, long got, long want) {
        CHECK.due(what, got, want);
    }

    private static void due(String what, boolean got, boolean want) {
        CHECK.due(what, got, want);
    }

    private static boolean canWake(int state) {
        return state == Given.SLEEP || state == Given.PREPARED;
    }

    // Promise 1: "So many nodes (1 .. 64"

    private static void soManyNodes() {
        for (int nodes = 1; nodes <= 64; nodes++) {
            BusSleep x = new BusSleep(nodes);
            due("nodes " + nodes + ": the last", x.request(nodes, true), Given.REPEAT);
            due("nodes " + nodes + ": one more", x.request(nodes + 1, true), -1);
            int same = 1 + (nodes - 1) / 16;
            due("nodes " + nodes + ": by a frame", x.wake(nodes, 0), same - 1);
        }
    }

    // "8 for any other number)"

    private static void eightForAnyOtherNumber() {
        int[] others = {0, -1, -8, -64, 65, 66, 128, 256, 1 << 16, Integer.MAX_VALUE, Integer.MIN_VALUE};
        for (int nodes : others) {
            BusSleep x = new BusSleep(nodes);
            due("nodes " + nodes + ": 8", x.state(8), Given.SLEEP);
            due("nodes " + nodes + ": 9", x.state(9), -1);
            due("nodes " + nodes + ": bus 2", x.coordinate(1, 2), -1);
        }
    }

    // Promise 2: "if it WANTS by that and is in SLEEP or PREPARED, it wakes: its state"

    private static void requestInEachState() {
        for (int state : STATES) {
            int woken = canWake(state) ? Given.REPEAT : state;
            BusSleep on = Given.at30(state, 8, 1);
            due("request on in " + state, on.request(1, true), woken);
            due("request on in " + state + ": state", on.state(1), woken);
            BusSleep off = Given.at30(state, 8, 1);
            due("request off in " + state, off.request(1, false), state);
            due("request off in " + state + ": state", off.state(1), state);
            BusSleep passive = Given.at30(state, 8, 1);
            passive.passive(1, true);
            due("request on, PASSIVE, in " + state, passive.request(1, true), state);
        }
    }

    // "A node is ASKED from now on, or not"

    private static void requestFromNowOn() {
        for (int offAt = 18; offAt <= 20; offAt++) {
            BusSleep x = new BusSleep(8);
            x.request(1, true);
            x.request(1, true);
            x.tick(offAt);
            x.request(1, false);
            due("asked twice, not asked at " + offAt, Given.stateAt(x, 1, 21), Given.READY);
            due("nobody else is asked", x.state(2), Given.SLEEP);
        }
        BusSleep y = new BusSleep(8);
        y.wake(1, 0);
        y.tick(19);
        y.request(1, true);
        due("asked at 19", Given.stateAt(y, 1, 20), Given.NORMAL);
        due("asked as long as nobody says otherwise", Given.stateAt(y, 1, 1000), Given.NORMAL);
    }

    // "-3 it is OUT"

    private static void requestOfOneThatIsOut() {
        BusSleep x = new BusSleep(8);
        due("request: not OUT yet", x.request(8, false), Given.SLEEP);
        x.limp(8, 0);
        due("request: OUT", x.request(8, true), -3);
        due("request: OUT, off", x.request(8, false), -3);
        due("request: another is not", x.request(7, true), Given.REPEAT);
        x.limp(8, 0);
        due("request: in again", x.request(8, true), Given.REPEAT);
    }

    // Promise 3: "how many others HEARD it"

    private static void aliveHeardByNoneToSeven() {
        BusSleep x = new BusSleep(9);
        x.request(9, true);
        for (int node = 1; node <= 8; node++) {
            x.request(node, true);
            due("alive: heard by " + (node - 1), x.alive(1, 0), node - 1);
            due("alive: heard by " + (node - 1), x.alive(node, 0), node - 1);
        }
        due("alive: alone on its bus", x.alive(9, 0), 0);
    }

    // "-3 it is OUT or PASSIVE, or, at that time, in SLEEP"

    private static void aliveInEachState() {
        for (int state : STATES) {
            int answer = state == Given.SLEEP ? -3 : 0;
            BusSleep x = Given.at30(state, 8, 1);
            due("alive in " + state, x.alive(1, 30), answer);
            x.passive(1, true);
            due("alive in " + state + ": PASSIVE", x.alive(1, 30), -3);
            x.passive(1, false);
            due("alive in " + state + ": not PASSIVE", x.alive(1, 30), answer);
            x.limp(1, 30);
            due("alive in " + state + ": OUT", x.alive(1, 30), -3);
            x.limp(1, 30);
            due("alive in " + state + ": in again, asleep", x.alive(1, 30), -3);
            x.request(1, true);
            due("alive in " + state + ": awake again", x.alive(1, 30), 0);
        }
    }

    // "at that time, in SLEEP (time has gone on then)"

    private static void aliveSleepsAtThatTime() {
        BusSleep x = Given.at30(Given.PREPARED, 8, 1);
        due("alive: not in SLEEP at 33", x.alive(1, 33), 0);
        due("alive: in SLEEP at 34", x.alive(1, 34), -3);
        due("alive: time is 34", x.tick(33), -2);
        due("alive: in SLEEP at 1034", x.alive(1, 1034), -3);
        due("alive: time is 1034, and 1033 is gone", x.tick(1033), -2);
        due("alive: time is 1034, and 2034 is 1000 on", x.tick(2034), 0);
        BusSleep y = new BusSleep(8);
        y.request(2, true);
        due("alive: one in SLEEP, at 20", y.alive(1, 20), -3);
        due("alive: the other's time has gone on", y.state(2), Given.NORMAL);
    }

    // Promise 4: "how often a node came to another state meanwhile"

    private static void tickCountsEachChange() {
        BusSleep x = new BusSleep(64);
        for (int frame = 0; frame < 16; frame++) {
            x.wake(frame, 0);
        }
        due("tick: no time", x.tick(0), 0);
        due("tick: until 19", x.tick(19), 0);
        due("tick: 64 to READY", x.tick(20), 64);
        due("tick: until 28", x.tick(28), 0);
        due("tick: 64 to PREPARED", x.tick(29), 64);
        due("tick: until 33", x.tick(33), 0);
        due("tick: 64 to SLEEP", x.tick(34), 64);
        due("tick: nothing more", x.tick(1034), 0);
        BusSleep y = new BusSleep(64);
        for (int frame = 0; frame < 16; frame++) {
            y.wake(frame, 0);
        }
        due("tick: three times 64 at once", y.tick(1000), 192);

        // Node 1 to PREPARED, then by node 2's row to REPEAT, in one tick; node 2 to NORMAL.
        BusSleep z = new BusSleep(2);
        z.wake(1, 0);
        z.wake(2, 0);
        z.tick(28);
        z.request(2, true);
        due("tick: one node twice, waking by a row too", z.tick(29), 3);
    }

    private static void tickDoesNotCountOtherCalls() {
        BusSleep x = new BusSleep(8);
        x.request(1, true);
        x.request(1, false);
        due("tick: waking by a call is not meanwhile", x.tick(0), 0);
        x.needs(1, 20);
        due("tick: what another call let happen", x.tick(28), 0);
        due("tick: what is left", x.tick(29), 1);
        x.limp(1, 29);
        due("tick: limp is not meanwhile", x.tick(100), 0);
    }

    // Promise 5: "-1 there is none"

    private static void stateOfFirstAndLast() {
        int[] counts = {1, 7, 8, 9, 63, 64};
        for (int count : counts) {
            BusSleep x = new BusSleep(count);
            due("state: 0 of " + count, x.state(0), -1);
            due("state: 1 of " + count, x.state(1), Given.SLEEP);
            due("state: last of " + count, x.state(count), Given.SLEEP);
            due("state: one more than " + count, x.state(count + 1), -1);
        }
        for (int state : STATES) {
            due("state " + state, Given.at30(state, 8, 1).state(1), state);
        }
    }

    // Promise 6: "a frame (0 .. 2047)"

    private static void wakeFrames() {
        int[][] rows = {
            {Integer.MIN_VALUE, -2}, {-16, -2}, {-1, -2}, {0, 1}, {1, 1}, {2046, 1}, {2047, 1},
            {2048, -2}, {2049, -2}, {4096, -2}, {Integer.MAX_VALUE, -2}};
        for (int[] row : rows) {
            due("wake: frame " + row[0], new BusSleep(16).wake(row[0], 0), row[1]);
        }
        for (int frame = 0; frame <= 2047; frame++) {
            due("wake: frame " + frame, new BusSleep(16).wake(frame, 0), 1);
        }
    }

    // "whose number has the same remainder by 16 as the frame's: how many"

    private static void wakeByRemainder() {
        int[] frames = {0, 1, 15, 16, 17, 31, 32, 2047};
        int[] counts = {1, 14, 15, 16, 17, 31, 32, 33, 48, 63, 64};
        for (int frame : frames) {
            for (int count : counts) {
                BusSleep x = new BusSleep(count);
                int meant = 0;
                for (int node = 1; node <= count; node++) {
                    meant += node % 16 == frame % 16 ? 1 : 0;
                }
                String what = "wake: frame " + frame + ", nodes " + count;
                due(what, x.wake(frame, 3), meant);
                for (int node = 1; node <= count; node++) {
                    boolean same = node % 16 == frame % 16;
                    due(what + ": node " + node, x.state(node), same ? Given.REPEAT : Given.SLEEP);
                }
                due(what + ": again", x.wake(frame, 3), 0);
            }
        }
    }

    // "wakes the nodes that are in SLEEP or PREPARED, not OUT"

    private static void wakeInEachState() {
        for (int state : STATES) {
            BusSleep x = Given.at30(state, 8, 1);
            due("wake in " + state, x.wake(17, 30), canWake(state) ? 1 : 0);
            due("wake in " + state + ": state", x.state(1), canWake(state) ? Given.REPEAT : state);
            BusSleep y = Given.at30(state, 8, 1);
            y.limp(1, 30);
            due("wake in " + state + ": OUT", y.wake(17, 30), 0);
            due("wake in " + state + ": OUT, its state", y.state(1), Given.SLEEP);
            y.limp(1, 30);
            due("wake in " + state + ": in again", y.wake(17, 30), 1);
        }
        // One in NORMAL, one OUT, one in SLEEP, one in PREPARED: two wake.
        BusSleep z = new BusSleep(64);
        z.wake(1, 0);
        z.limp(1, 28);
        z.limp(1, 28);
        z.limp(17, 28);
        z.tick(28);
        z.request(33, true);
        due("wake: some", z.wake(1, 29), 2);
        due("wake: SLEEP", z.state(1), Given.REPEAT);
        due("wake: OUT", z.state(17), Given.SLEEP);
        due("wake: NORMAL", z.state(33), Given.NORMAL);
        due("wake: PREPARED", z.state(49), Given.REPEAT);
    }

    // Promise 7: "A node has one of the BITS from now on, or not: how many it has", "-2 no such bit"

    private static void bitOneToThirtyTwo() {
        BusSleep x = new BusSleep(2);
        due("bit -1", x.bit(1, -1, true), -2);
        due("bit 32", x.bit(1, 32, true), -2);
        due("bit: none is not had", x.bit(1, 0, false), 0);
        for (int b = 31; b >= 0; b--) {
            due("bit: not had", x.bit(1, b, false), 31 - b);
            due("bit: one more", x.bit(1, b, true), 32 - b);
            due("bit: had", x.bit(1, b, true), 32 - b);
        }
        due("bit 32, all had", x.bit(1, 32, true), -2);
        due("bit 32, off", x.bit(1, 32, false), -2);
        due("bit -1, off", x.bit(1, -1, false), -2);
        int[] far = {33, 63, 64, 256, Integer.MAX_VALUE, Integer.MIN_VALUE};
        for (int b : far) {
            due("bit " + b, x.bit(1, b, false), -2);
        }
        for (int b = 0; b < 32; b++) {
            due("bit: one less", x.bit(1, b, false), 31 - b);
            due("bit: no longer had", x.bit(1, b, false), 31 - b);
        }
    }

    private static void bitOfOneNodeAlone() {
        BusSleep x = new BusSleep(64);
        for (int node = 1; node <= 64; node++) {
            due("bit: the first of " + node, x.bit(node, node % 32, true), 1);
        }
        due("bit: node 0", x.bit(0, 0, true), -1);
        due("bit: node 65", x.bit(65, 0, true), -1);
        BusSleep y = new BusSleep(2);
        y.limp(1, 0);
        due("bit: OUT", y.bit(1, 0, true), 1);
    }

    // Promise 8: "CALLED on one of its buses 10 ticks ago or less"

    private static void needs10TicksAgo() {
        for (int ago = 0; ago <= 12; ago++) {
            BusSleep x = called(0);
            due("needs: called " + ago + " ticks ago", x.needs(2, 30 + ago), ago <= 10 ? 1 : 0);
            BusSleep y = called(31);
            due("needs: on its other bus " + ago + " ticks ago", y.needs(9, 30 + ago), ago <= 10 ? 1 : 0);
        }
        // At first nothing was called, not even long ago.
        BusSleep z = new BusSleep(8);
        for (int b = 0; b < 32; b++) {
            z.bit(1, b, true);
        }
        long[] times = {0, 1, 9, 10, 11, 1000};
        for (long t : times) {
            due("needs: never called, at " + t, z.needs(1, t), 0);
        }
    }

    /** The bit was called at 30 on bus 1, and not again; bus 2 is one with it, bus 3 is not. */
    private static BusSleep called(int bit) {
        BusSleep x = new BusSleep(24);
        x.coordinate(2, 1);
        x.bit(1, bit, true);
        x.bit(2, bit, true);
        x.bit(9, bit, true);
        x.bit(17, bit, true);
        x.tick(30);
        x.request(1, true);
        x.alive(1, 30);
        x.request(1, false);
        return x;
    }

    private static void needsNoneOfNoBits() {
        BusSleep x = called(5);
        due("needs: no BITS", x.needs(3, 30), 0);
        due("needs: not one of its buses", x.needs(17, 30), 0);
        x.coordinate(3, 2);
        due("needs: one of its buses now", x.needs(17, 30), 1);
        x.bit(2, 5, false);
        due("needs: not one of its BITS any more", x.needs(2, 30), 0);
        x.bit(3, 5, true);
        due("needs: one of its BITS now", x.needs(3, 30), 1);
    }

    private static void needsOneOfItsBits() {
        for (int bit = 0; bit < 32; bit++) {
            BusSleep x = called(bit);
            for (int b = 0; b < 32; b++) {
                x.bit(4, b, b != bit);
                x.bit(5, b, true);
            }
            due("needs: all but " + bit, x.needs(4, 30), 0);
            due("needs: all, and " + bit, x.needs(5, 30), 1);
            due("needs: only " + bit, x.needs(2, 30), 1);
        }
    }

    // Promise 9: "how many buses are now one with the first (itself counts)"

    private static void coordinateOneToEight() {
        BusSleep x = new BusSleep(64);
        for (int other = 2; other <= 8; other++) {
            due("coordinate: 1 with " + other, x.coordinate(1, other), other);
            due("coordinate: again", x.coordinate(1, other), other);
            due("coordinate: the other way", x.coordinate(other, 1), other);
        }
        due("coordinate: all are one", x.coordinate(5, 8), 8);
        BusSleep y = new BusSleep(64);
        due("coordinate: first group", y.coordinate(1, 3), 2);
        due("coordinate: first group", y.coordinate(3, 5), 3);
        due("coordinate: second group", y.coordinate(8, 6), 2);
        due("coordinate: of the first alone", y.coordinate(5, 1), 3);
        due("coordinate: of the second alone", y.coordinate(6, 8), 2);
        due("coordinate: both", y.coordinate(6, 3), 5);
        due("coordinate: from the other end", y.coordinate(1, 8), 5);
    }

    // "-1 there is no such bus with nodes, -2 it is one bus"

    private static void coordinateOneBus() {
        int[] counts = {1, 8, 9, 16, 17, 64};
        for (int count : counts) {
            int buses = (count + 7) / 8;
            int[] none = {Integer.MIN_VALUE, -1, 0, buses + 1, Integer.MAX_VALUE};
            for (int bus : none) {
                BusSleep x = new BusSleep(count);
                due("coordinate: " + bus + " of " + count, x.coordinate(bus, 1), -1);
                due("coordinate: 1 with " + bus + " of " + count, x.coordinate(1, bus), -1);
                due("coordinate: none with itself", x.coordinate(bus, bus), -1);
            }
            BusSleep y = new BusSleep(count);
            due("coordinate: the first with itself", y.coordinate(1, 1), -2);
            due("coordinate: the last with itself", y.coordinate(buses, buses), -2);
            if (buses > 1) {
                due("coordinate: the last with the first", y.coordinate(buses, 1), 2);
                due("coordinate: the last with itself, after that", y.coordinate(buses, buses), -2);
            }
        }
    }

    // Promise 10: "A node is PASSIVE from now on, or not: its state. -1 there is none"

    private static void passiveInEachState() {
        for (int state : STATES) {
            BusSleep x = Given.at30(state, 8, 1);
            due("passive on in " + state, x.passive(1, true), state);
            due("passive on again in " + state, x.passive(1, true), state);
            due("passive off in " + state, x.passive(1, false), state);
            due("passive: its state stays", x.state(1), state);
            x.limp(1, 30);
            due("passive: OUT", x.passive(1, true), Given.SLEEP);
        }
        BusSleep y = new BusSleep(8);
        int[] none = {Integer.MIN_VALUE, -1, 0, 9, Integer.MAX_VALUE};
        for (int node : none) {
            due("passive: node " + node, y.passive(node, true), -1);
            due("passive: node " + node, y.passive(node, false), -1);
        }
        due("passive: the first", y.passive(1, true), Given.SLEEP);
        due("passive: the last", y.passive(8, true), Given.SLEEP);
    }

    private static void passiveFromNowOn() {
        BusSleep x = Given.at30(Given.NORMAL, 8, 1);
        x.passive(1, true);
        due("passive: no row from now on", x.alive(1, 30), -3);
        due("passive: nobody else is", x.request(2, true), Given.REPEAT);
        due("passive: as long as nobody says otherwise", x.alive(1, 1030), -3);
        x.passive(1, false);
        x.request(1, true);
        due("passive: a row from now on", x.alive(1, 1030), 1);
    }

    // Promise 11: "that is in NORMAL and has been there for 200 ticks or more"

    private static void neverFrom200On() {
        BusSleep x = new BusSleep(64);
        x.request(64, true);
        x.tick(219);
        due("never: 199 ticks", x.never(0), 0);
        x.tick(220);
        due("never: 200 ticks", x.never(0), 64);
        x.tick(221);
        due("never: 201 ticks", x.never(0), 64);
        x.tick(1221);
        due("never: 1201 ticks", x.never(0), 64);
    }

    // "The i-th (from 0 on) node", "0 if there is none"

    private static void neverIth() {
        BusSleep all = new BusSleep(64);
        for (int node = 64; node >= 1; node--) {
            all.request(node, true);
        }
        all.tick(220);
        for (int i = 0; i < 64; i++) {
            due("never: all, " + i, all.never(i), i + 1);
        }
        int[] none = {Integer.MIN_VALUE, -64, -1, 64, 65, Integer.MAX_VALUE};
        for (int i : none) {
            due("never: all, " + i, all.never(i), 0);
            due("never: nobody, " + i, new BusSleep(64).never(i), 0);
        }
        due("never: nobody, 0", new BusSleep(64).never(0), 0);

        // Nodes 2 and 60 from 20 on, node 9 from 21 on.
        BusSleep x = new BusSleep(64);
        x.request(60, true);
        x.request(2, true);
        x.tick(1);
        x.request(9, true);
        int[][] rows = {{219, 0, 0, 0}, {220, 2, 60, 0}, {221, 2, 9, 60}};
        for (int[] row : rows) {
            x.tick(row[0]);
            for (int i = 0; i < 3; i++) {
                due("never: " + i + " at " + row[0], x.never(i), row[1 + i]);
            }
            due("never: 3 at " + row[0], x.never(3), 0);
        }
    }

    private static void neverInNormalAlone() {
        // Node 2 is READY from 20 on, for node 1 on its bus is in NORMAL.
        BusSleep x = new BusSleep(8);
        x.request(1, true);
        x.wake(2, 0);
        x.tick(300);
        due("never: NORMAL", x.never(0), 1);
        due("never: READY is not meant", x.never(1), 0);
        x.request(1, false);
        due("never: until it leaves NORMAL", x.never(0), 1);
        x.tick(301);
        due("never: it has left NORMAL", x.never(0), 0);
        x.request(1, true);
        x.tick(501);
        due("never: there again for 199 ticks", x.never(0), 0);
        x.tick(502);
        due("never: there again for 200 ticks", x.never(0), 1);
        x.limp(1, 502);
        due("never: OUT", x.never(0), 0);
        BusSleep y = new BusSleep(8);
        y.tick(1000);
        due("never: in SLEEP for long", y.never(0), 0);
    }

    // Promise 12: "1 it is OUT, 0 it is in"

    private static void limpOutAndInAgain() {
        BusSleep x = new BusSleep(64);
        int[] nodes = {1, 8, 9, 64};
        for (int node : nodes) {
            due("limp: out", x.limp(node, 5), 1);
            due("limp: in again", x.limp(node, 5), 0);
            due("limp: out again", x.limp(node, 5), 1);
        }
        due("limp: another is in", x.request(2, true), Given.REPEAT);
        int[] none = {Integer.MIN_VALUE, -1, 0, 65, Integer.MAX_VALUE};
        for (int node : none) {
            due("limp: node " + node, x.limp(node, 5), -1);
        }
        for (int node : nodes) {
            due("limp: in at last", x.limp(node, 6), 0);
            due("limp: in at last, in SLEEP", x.state(node), Given.SLEEP);
        }
    }

    // "(in SLEEP, not ASKED)"

    private static void limpIsNotAsked() {
        for (int limps = 0; limps <= 2; limps += 2) {
            BusSleep x = new BusSleep(8);
            x.request(1, true);
            for (int i = 0; i < limps; i++) {
                x.limp(1, 0);
            }
            x.wake(1, 0);
            due("limp: asked before, " + limps + " times", Given.stateAt(x, 1, 20),
                limps == 0 ? Given.NORMAL : Given.READY);
        }
        for (int state : STATES) {
            BusSleep x = Given.at30(state, 8, 1);
            x.limp(1, 30);
            due("limp in " + state + ": in SLEEP", x.state(1), Given.SLEEP);
            x.limp(1, 31);
            due("limp in " + state + ": in again, in SLEEP", x.state(1), Given.SLEEP);
            due("limp in " + state + ": stays there", x.tick(1031), 0);
        }
    }

    // Promise 13: "Whether all nodes are in SLEEP"

    private static void sleepsAllOrNot() {
        int[] counts = {1, 2, 8, 9, 64};
        for (int count : counts) {
            due("sleeps: all of " + count, new BusSleep(count).sleeps(), true);
            for (int node = 1; node <= count; node++) {
                BusSleep x = new BusSleep(count);
                x.request(node, true);
                due("sleeps: all of " + count + " but " + node, x.sleeps(), false);
                x.limp(node, 0);
                due("sleeps: that one too", x.sleeps(), true);
            }
        }
        for (int state : STATES) {
            due("sleeps: one in " + state, Given.at30(state, 8, 8).sleeps(), state == Given.SLEEP);
        }
    }
}
