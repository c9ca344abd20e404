/** The sentences of the document's "Terms" that name a boundary: each has a test, on both sides. */
public final class TermsTest {
    private static final int[] STATES = {Given.SLEEP, Given.PREPARED, Given.READY, Given.NORMAL, Given.REPEAT};

    private static final Check CHECK = new Check();

    public static void main(String[] args) {
        upTo512Calls();
        numberedFromOne();
        eightOnABus();
        allSleepAtTimeZero();
        passiveSendsNothing();
        passiveHearsAndWakes();
        askedDoesNotCountWhilePassive();
        outIsInSleep();
        outHasNoPart();
        wakingIsSinceNow();
        wakingSendsAtTheNextTick();
        rowIsHeardByItsSender();
        rowIsHeardByOthersOnItsBus();
        rowIsNotHeardInSleep();
        rowWakesOnlyPrepared();
        rowCallsAllBitsOfWhoWants();
        rowOfWhoDoesNotWantCallsNothing();
        inTheOrderOfNumbers();
        statesBeforeRows();
        repeatLasts20();
        normalAndReadyTurn();
        preparedLasts5();
        rowEachThirdTick();
        onlyRepeatAndNormalSend();
        rowsInTicksAlone();
        wokeBeforeThisTick();
        noneSentSinceItWoke();
        coordinatedByOthersInBetween();
        stillNeedsNoneAwake();
        stillNeedsHeard10Ago();
        stillLooksAtReadyAlone();
        outDoesNotMatter();
        busesWithoutNodes();
        timeNotLessAndNotTooFar();
        allTicksTheLastOneToo();
        CHECK.end();
    }

    private static void due(String what, long got, long want) {
        CHECK.due(what, got, want);
    }

    private static void due(String what, boolean got, boolean want) {
        CHECK.due(what, got, want);
    }

    private static void stateIs(String what, BusSleep x, int node, long t, int want) {
        due(what + ": node " + node + " at " + t, Given.stateAt(x, node, t), want);
    }

    /** The node's last calling row was at the time, as far as can be seen from there on. */
    private static void lastCalledAt(String what, BusSleep x, int node, long t) {
        due(what + ": called at " + t, x.needs(node, t + 10), 1);
        due(what + ": not called after " + t, x.needs(node, t + 11), 0);
    }

    // "An object is used for at most 512 calls after it has been made"

    private static void upTo512Calls() {
        BusSleep x = new BusSleep(64);
        for (int call = 1; call <= 512; call++) {
            due("call " + call + ": four wake and are asleep by the next", x.wake(call % 16, call * 1000L), 4);
        }
        BusSleep y = new BusSleep(1);
        y.request(1, true);
        for (int call = 2; call <= 511; call++) {
            due("call " + call + ": to NORMAL once", y.tick((call - 1) * 1000L), call == 2 ? 1 : 0);
        }
        due("call 512: in NORMAL all the time", y.never(0), 1);
    }

    // "NODES are numbered from 1 on"

    private static void numberedFromOne() {
        BusSleep x = new BusSleep(2);
        due("node 0", x.state(0), -1);
        due("node 1", x.state(1), Given.SLEEP);
    }

    // "node n is on BUS 1 + (n - 1) / 8 (a whole quotient)"

    private static void eightOnABus() {
        for (int first = 1; first <= 57; first += 8) {
            BusSleep x = new BusSleep(64);
            int last = first + 7;
            x.request(first, true);
            x.request(last, true);
            due("bus of " + first + " and " + last, x.alive(first, 0), 1);
            due("bus of " + last + " and " + first, x.alive(last, 0), 1);
            if (last < 64) {
                x.request(last + 1, true);
                due("bus of " + last + ", not of " + (last + 1), x.alive(last, 0), 1);
                due("bus of " + (last + 1) + ", not of " + last, x.alive(last + 1, 0), 0);
            }
            due("number of the bus", x.coordinate((first + 7) / 8, 9), -1);
            due("number of the bus, itself", x.coordinate((first + 7) / 8, (last - 1) / 8 + 1), -2);
        }
    }

    // "all SLEEP at first, at time 0"

    private static void allSleepAtTimeZero() {
        for (int nodes = 1; nodes <= 64; nodes++) {
            BusSleep x = new BusSleep(nodes);
            for (int node = 1; node <= nodes; node++) {
                due("at first: " + node + " of " + nodes, x.state(node), Given.SLEEP);
            }
            due("at first: before time 0", x.tick(-1), -2);
            due("at first: time 0", x.tick(0), 0);
        }
    }

    // "PASSIVE (then it sends nothing"

    private static void passiveSendsNothing() {
        for (int state : STATES) {
            BusSleep x = Given.at30(state, 8, 1);
            x.bit(1, 0, true);
            x.passive(1, true);
            due("PASSIVE in " + state + ": no row besides", x.alive(1, 30), -3);
            due("PASSIVE in " + state + ": no row in a tick", x.needs(1, 33), 0);
        }
        BusSleep y = Given.at30(Given.NORMAL, 8, 1);
        y.bit(1, 0, true);
        due("not PASSIVE: a row besides", y.alive(1, 30), 0);
        y.passive(1, true);
        y.passive(1, false);
        due("no longer PASSIVE: a row in a tick", y.needs(1, 41), 1);

        // Node 2 in PREPARED would wake by a row of node 1.
        BusSleep z = Given.at30(Given.PREPARED, 8, 2);
        z.passive(1, true);
        z.wake(1, 30);
        stateIs("PASSIVE in REPEAT wakes nobody", z, 2, 32, Given.PREPARED);
        z.passive(1, false);
        stateIs("no longer PASSIVE in REPEAT", z, 2, 33, Given.REPEAT);
    }

    private static void passiveHearsAndWakes() {
        BusSleep x = Given.at30(Given.PREPARED, 8, 1);
        x.passive(1, true);
        x.request(2, true);
        due("PASSIVE hears a row besides", x.alive(2, 30), 1);
        due("PASSIVE wakes by a row", x.state(1), Given.REPEAT);
        BusSleep y = new BusSleep(8);
        y.passive(1, true);
        due("PASSIVE wakes by a frame", y.wake(1, 0), 1);
    }

    // "and being ASKED does not count)", "A node that is ASKED and not PASSIVE WANTS"

    private static void askedDoesNotCountWhilePassive() {
        for (int kind = 0; kind < 4; kind++) {
            boolean asked = (kind & 1) != 0;
            boolean passive = (kind & 2) != 0;
            int after = asked && !passive ? Given.NORMAL : Given.READY;
            String what = "ASKED " + asked + ", PASSIVE " + passive;
            BusSleep x = new BusSleep(1);
            x.wake(1, 0);
            x.request(1, asked);
            x.passive(1, passive);
            stateIs(what, x, 1, 20, after);
            BusSleep y = new BusSleep(1);
            y.passive(1, passive);
            due(what + ": request", y.request(1, asked), asked && !passive ? Given.REPEAT : Given.SLEEP);
        }
    }

    // "OUT (then it has no part in anything, in SLEEP)"

    private static void outIsInSleep() {
        for (int state : STATES) {
            BusSleep x = Given.at30(state, 8, 1);
            due("before it is OUT", x.state(1), state);
            due("OUT from " + state, x.limp(1, 30), 1);
            due("OUT from " + state + ": its state", x.state(1), Given.SLEEP);
            due("OUT from " + state + ": nothing else changes", x.tick(1030), 0);
        }
    }

    private static void outHasNoPart() {
        BusSleep x = new BusSleep(8);
        x.request(2, true);
        x.limp(1, 0);
        due("OUT: no request", x.request(1, true), -3);
        due("OUT: no frame wakes it", x.wake(1, 0), 0);
        due("OUT: it sends no row", x.alive(1, 0), -3);
        due("OUT: it hears no row", x.alive(2, 0), 0);
        stateIs("OUT: rows in ticks do not move it", x, 1, 100, Given.SLEEP);
        x.limp(1, 100);
        due("in again: a frame wakes it", x.wake(1, 100), 1);
        due("in again: it hears a row", x.alive(2, 100), 1);
        due("in again: it sends a row", x.alive(1, 100), 1);
        due("in again: it is asked", x.request(1, true), Given.REPEAT);
    }

    // "TO WAKE is to come to REPEAT: SINCE and HEARD are the time at hand"

    private static void wakingIsSinceNow() {
        BusSleep[] woken = {
            new BusSleep(8), Given.at30(Given.PREPARED, 8, 1),
            new BusSleep(8), Given.at30(Given.PREPARED, 8, 1),
            Given.at30(Given.PREPARED, 8, 1)};
        for (int way = 0; way < woken.length; way++) {
            BusSleep x = woken[way];
            x.tick(32);
            wakeNode1(x, way);
            due("woken " + way + ": at once", x.state(1), Given.REPEAT);
            stateIs("woken " + way + ": 19 ticks", x, 1, 51, Given.REPEAT);
            stateIs("woken " + way + ": 20 ticks", x, 1, 52, way < 2 ? Given.NORMAL : Given.READY);
        }
    }

    private static void wakeNode1(BusSleep x, int way) {
        if (way < 2) {
            x.request(1, true);
        } else if (way < 4) {
            x.wake(1, 32);
        } else {
            x.request(2, true);
            x.alive(2, 32);
            x.limp(2, 32);
        }
    }

    // "and it sends at the next tick"

    private static void wakingSendsAtTheNextTick() {
        BusSleep[] woken = {
            new BusSleep(8), Given.at30(Given.PREPARED, 8, 1),
            wantsInSleep(), Given.preparedAndWants(8, 1),
            Given.preparedAndWants(8, 1)};
        for (int way = 0; way < woken.length; way++) {
            BusSleep x = woken[way];
            x.bit(1, 9, true);
            x.tick(32);
            wakeNode1(x, way);
            due("woken " + way + ": no row at once", x.needs(1, 32), 0);
            due("woken " + way + ": a row at the next tick", x.needs(1, 33), 1);
        }
    }

    private static BusSleep wantsInSleep() {
        BusSleep x = new BusSleep(8);
        x.passive(1, true);
        x.request(1, true);
        x.passive(1, false);
        return x;
    }

    // "A ROW of a node: its own HEARD is the time at hand"

    private static void rowIsHeardByItsSender() {
        BusSleep x = Given.at30(Given.READY, 8, 1);
        due("row of one alone", x.alive(1, 30), 0);
        stateIs("its own HEARD: 9 ticks ago", x, 1, 39, Given.READY);
        stateIs("its own HEARD: 10 ticks ago", x, 1, 40, Given.PREPARED);
        BusSleep y = Given.at30(Given.READY, 8, 1);
        stateIs("its rows in ticks: 9 ticks ago", y, 1, 33, Given.READY);
        stateIs("its rows in ticks: 10 ticks ago", y, 1, 34, Given.PREPARED);
    }

    // "so is HEARD of all others on its bus that are not OUT nor in SLEEP"

    private static void rowIsHeardByOthersOnItsBus() {
        BusSleep x = Given.at30(Given.READY, 16, 1);
        x.request(8, true);
        due("heard by the READY one", x.alive(8, 32), 1);
        x.limp(8, 32);
        stateIs("HEARD of others: 9 ticks ago", x, 1, 41, Given.READY);
        stateIs("HEARD of others: 10 ticks ago", x, 1, 42, Given.PREPARED);

        BusSleep y = Given.at30(Given.READY, 16, 1);
        y.request(9, true);
        due("not heard on another bus", y.alive(9, 32), 0);
        stateIs("a row on another bus", y, 1, 33, Given.READY);
        stateIs("a row on another bus", y, 1, 34, Given.PREPARED);
    }

    private static void rowIsNotHeardInSleep() {
        for (int state : STATES) {
            BusSleep x = Given.at30(state, 8, 1);
            x.request(2, true);
            due("heard in " + state, x.alive(2, 30), state == Given.SLEEP ? 0 : 1);
            x.limp(1, 30);
            due("heard by one that is OUT", x.alive(2, 30), 0);
        }
    }

    // "those of them that are PREPARED wake"

    private static void rowWakesOnlyPrepared() {
        for (int state : STATES) {
            BusSleep x = Given.at30(state, 8, 1);
            x.request(2, true);
            x.alive(2, 30);
            int after = state == Given.PREPARED ? Given.REPEAT : state;
            due("a row to one in " + state, x.state(1), after);
        }
        BusSleep y = Given.at30(Given.PREPARED, 8, 1);
        due("its own row, in PREPARED", y.alive(1, 30), 0);
        due("its own row does not wake it", y.state(1), Given.PREPARED);
        stateIs("nor is it SINCE then", y, 1, 34, Given.SLEEP);

        // REPEAT since 15, and NORMAL since 20, whatever they hear.
        BusSleep z = Given.at30(Given.REPEAT, 8, 1);
        z.request(2, true);
        z.alive(2, 30);
        stateIs("REPEAT hears", z, 1, 34, Given.REPEAT);
        stateIs("REPEAT hears", z, 1, 35, Given.READY);
        BusSleep w = Given.at30(Given.NORMAL, 8, 1);
        w.request(2, true);
        w.alive(2, 30);
        w.tick(220);
        due("NORMAL hears", w.never(0), 1);
    }

    // "If the sender WANTS, all its BITS are CALLED at that time on its bus"

    private static void rowCallsAllBitsOfWhoWants() {
        BusSleep x = new BusSleep(16);
        for (int b = 0; b < 32; b++) {
            x.bit(1, b, true);
        }
        x.request(1, true);
        x.alive(1, 0);
        for (int b = 0; b < 32; b++) {
            x.bit(2, b, true);
            x.bit(9, b, true);
            due("bit " + b + " on its bus", x.needs(2, 0), 1);
            due("bit " + b + " on another bus", x.needs(9, 0), 0);
            x.bit(2, b, false);
            x.bit(9, b, false);
        }
        BusSleep y = new BusSleep(2);
        y.request(1, true);
        y.bit(2, 6, true);
        y.tick(1);
        y.bit(1, 6, true);
        due("a bit got after the row", y.needs(2, 3), 0);
        due("a bit got before the row", y.needs(2, 4), 1);
        y.bit(1, 6, false);
        due("a bit lost after the row", y.needs(2, 14), 1);
        due("a bit lost before the row", y.needs(2, 15), 0);
    }

    private static void rowOfWhoDoesNotWantCallsNothing() {
        for (int state : STATES) {
            boolean wants = state == Given.NORMAL;
            BusSleep x = Given.at30(state, 8, 1);
            x.bit(1, 0, true);
            x.alive(1, 30);
            due("a row in " + state + ", WANTS " + wants, x.needs(1, 30), wants ? 1 : 0);
        }
        BusSleep y = Given.at30(Given.READY, 8, 1);
        y.bit(1, 0, true);
        y.request(1, true);
        y.alive(1, 30);
        due("a row in READY of one that WANTS", y.needs(1, 30), 1);
        BusSleep z = Given.at30(Given.NORMAL, 8, 1);
        z.bit(1, 0, true);
        z.request(1, false);
        z.alive(1, 30);
        due("a row in NORMAL of one that does not WANT", z.needs(1, 30), 0);
    }

    // "every node, in the order of their numbers, each looking at the states that those before it have by then"

    private static void inTheOrderOfNumbers() {
        // Nobody sends. Node 2 is READY from 20 on; node 1 leaves REPEAT at 25, before node 2 looks.
        BusSleep x = twoPassive(2, 1);
        stateIs("the one before is in REPEAT", x, 2, 24, Given.READY);
        due("the one before has left REPEAT: both change", x.tick(25), 2);
        due("the one before has left REPEAT", x.state(2), Given.PREPARED);
        // The other way round node 1 looks while node 2 is in REPEAT still.
        BusSleep y = twoPassive(1, 2);
        y.tick(24);
        due("the one behind has not left REPEAT: only that one changes", y.tick(25), 1);
        due("the one behind has not left REPEAT", y.state(1), Given.READY);
        stateIs("the one behind has left it", y, 1, 26, Given.PREPARED);
    }

    private static BusSleep twoPassive(int first, int second) {
        BusSleep x = new BusSleep(2);
        x.passive(1, true);
        x.passive(2, true);
        x.wake(first, 0);
        x.wake(second, 5);
        return x;
    }

    // "In each tick at first every node .. Then every node, in that order .. a ROW"

    private static void statesBeforeRows() {
        // Node 2 goes to SLEEP at 34; node 1's first row is in that same tick, and too late for it.
        BusSleep x = Given.at30(Given.PREPARED, 8, 2);
        x.tick(33);
        x.request(1, true);
        due("states before rows: to SLEEP", x.tick(34), 1);
        due("states before rows: in SLEEP", x.state(2), Given.SLEEP);
        BusSleep y = Given.at30(Given.PREPARED, 8, 2);
        y.tick(32);
        y.request(1, true);
        due("a row one tick before: wakes", y.tick(33), 1);
        due("a row one tick before: in REPEAT", y.state(2), Given.REPEAT);
    }

    // "REPEAT: when SINCE is 20 ticks ago or more: to NORMAL if it WANTS, otherwise to READY"

    private static void repeatLasts20() {
        for (int since = 0; since <= 7; since += 7) {
            BusSleep x = new BusSleep(2);
            x.wake(1, since);
            x.request(2, true);
            due("REPEAT 19 ticks ago", x.tick(since + 19), 0);
            due("REPEAT 19 ticks ago", x.state(1), Given.REPEAT);
            due("REPEAT 20 ticks ago", x.tick(since + 20), 2);
            due("REPEAT 20 ticks ago, does not WANT", x.state(1), Given.READY);
            due("REPEAT 20 ticks ago, WANTS", x.state(2), Given.NORMAL);
        }
    }

    // "NORMAL: if it does not WANT, to READY. READY: if it WANTS, to NORMAL"

    private static void normalAndReadyTurn() {
        BusSleep x = Given.at30(Given.NORMAL, 1, 1);
        due("NORMAL, WANTS", x.tick(31), 0);
        x.request(1, false);
        due("NORMAL until the next tick", x.state(1), Given.NORMAL);
        stateIs("NORMAL, does not WANT", x, 1, 32, Given.READY);
        x.request(1, true);
        due("READY until the next tick", x.state(1), Given.READY);
        stateIs("READY, WANTS", x, 1, 33, Given.NORMAL);
        x.passive(1, true);
        stateIs("NORMAL, PASSIVE", x, 1, 34, Given.READY);
        x.passive(1, false);
        stateIs("READY, no longer PASSIVE", x, 1, 35, Given.NORMAL);
        // Its buses would be STILL at 34 (its last row is at 24), but it WANTS.
        BusSleep y = Given.at30(Given.READY, 1, 1);
        y.tick(33);
        y.request(1, true);
        stateIs("READY, WANTS, and STILL", y, 1, 34, Given.NORMAL);
    }

    // "PREPARED: when SINCE is 5 ticks ago or more, to SLEEP"

    private static void preparedLasts5() {
        BusSleep x = Given.at30(Given.PREPARED, 1, 1);
        stateIs("PREPARED 4 ticks ago", x, 1, 33, Given.PREPARED);
        stateIs("PREPARED 5 ticks ago", x, 1, 34, Given.SLEEP);
        BusSleep y = Given.preparedAndWants(1, 1);
        stateIs("PREPARED though it WANTS, 4 ticks ago", y, 1, 33, Given.PREPARED);
        stateIs("PREPARED though it WANTS, 5 ticks ago", y, 1, 34, Given.SLEEP);
    }

    // "whose last row in a tick is 3 ticks ago or more"

    private static void rowEachThirdTick() {
        for (int out = 1; out <= 61; out++) {
            BusSleep x = new BusSleep(1);
            x.bit(1, 0, true);
            x.request(1, true);
            x.limp(1, out);
            lastCalledAt("OUT at " + out, x, 1, out - (out - 1) % 3);
        }
    }

    // "that is in REPEAT or NORMAL and not PASSIVE"

    private static void onlyRepeatAndNormalSend() {
        BusSleep[] wanting = {
            wantsInSleep(), Given.preparedAndWants(8, 1),
            Given.at30(Given.NORMAL, 8, 1), Given.at30(Given.REPEAT, 8, 1)};
        for (int i = 0; i < wanting.length; i++) {
            BusSleep x = wanting[i];
            x.bit(1, 0, true);
            if (x.state(1) == Given.REPEAT) {
                x.request(1, true);
            }
            due("sends in ticks in " + x.state(1), x.needs(1, 33), i < 2 ? 0 : 1);
        }
        // Its last row is at 24; were it to send on in READY, it would not be PREPARED at 34.
        BusSleep ready = Given.at30(Given.READY, 1, 1);
        stateIs("READY sends no more", ready, 1, 34, Given.PREPARED);
        // Rows at 16, 19, .. 34, though it does not WANT.
        BusSleep repeat = Given.at30(Given.REPEAT, 1, 1);
        stateIs("REPEAT sends until 34", repeat, 1, 43, Given.READY);
        stateIs("REPEAT sends until 34", repeat, 1, 44, Given.PREPARED);
    }

    // "last row in a tick": rows besides do not count

    private static void rowsInTicksAlone() {
        for (int besides = 1; besides <= 4; besides++) {
            BusSleep x = new BusSleep(1);
            x.bit(1, 0, true);
            x.request(1, true);
            x.alive(1, besides);
            x.limp(1, 4);
            lastCalledAt("a row besides at " + besides + ", in ticks at 1 and 4", x, 1, 4);
            BusSleep y = new BusSleep(1);
            y.bit(1, 0, true);
            y.request(1, true);
            y.alive(1, 4);
            y.limp(1, 4 + besides);
            lastCalledAt("a row besides at 4, OUT at " + (4 + besides), y, 1, besides < 3 ? 4 : 7);
        }
    }

    // "or that woke before this tick and has sent none in a tick since"

    private static void wokeBeforeThisTick() {
        // The node has sent nothing yet, and wakes by the other's row in tick 23.
        for (int node = 1; node <= 2; node++) {
            int other = 3 - node;
            BusSleep x = new BusSleep(2);
            x.bit(node, 0, true);
            x.passive(node, true);
            x.wake(node, 0);
            x.tick(22);
            x.request(node, true);
            x.passive(node, false);
            x.request(other, true);
            due("woke in this tick: before it", x.state(node), Given.PREPARED);
            due("woke in this tick: no row of node " + node, x.needs(node, 23), 0);
            due("woke in this tick: REPEAT", x.state(node), Given.REPEAT);
            due("woke before this tick: a row of node " + node, x.needs(node, 24), 1);
            x.limp(node, 26);
            lastCalledAt("woke at 23: no row before 27", x, node, 24);
        }
    }

    private static void noneSentSinceItWoke() {
        // Its last row was in this tick, but before it woke again: it sends at the next.
        for (int last = 1; last <= 7; last += 3) {
            BusSleep x = new BusSleep(1);
            x.bit(1, 0, true);
            x.request(1, true);
            x.limp(1, last);
            x.limp(1, last);
            x.request(1, true);
            x.limp(1, last + 3);
            lastCalledAt("woke again at " + last, x, 1, last + 1);
        }
        // It woke long ago, and sends as soon as it is no longer PASSIVE; then each third tick.
        BusSleep y = new BusSleep(1);
        y.bit(1, 0, true);
        y.request(1, true);
        y.passive(1, true);
        y.tick(6);
        y.passive(1, false);
        y.limp(1, 9);
        lastCalledAt("none sent since it woke", y, 1, 7);
        // It has sent one since, at 1: PASSIVE at 4 and 5, it sends at 6, and then at 9.
        for (int out = 6; out <= 9; out++) {
            BusSleep z = new BusSleep(1);
            z.bit(1, 0, true);
            z.request(1, true);
            z.tick(1);
            z.passive(1, true);
            z.tick(5);
            z.passive(1, false);
            z.limp(1, out);
            lastCalledAt("one sent since, OUT at " + out, z, 1, out < 9 ? 6 : 9);
        }
    }

    // "A node's buses are its own and all that are COORDINATED with it, also by others in between"

    private static void coordinatedByOthersInBetween() {
        for (int last = 1; last <= 8; last++) {
            BusSleep x = new BusSleep(64);
            // Linked from the far end on, and not in one line of calls.
            for (int bus = last; bus > 1; bus--) {
                due("in a chain from " + last, x.coordinate(bus - 1, bus), last - bus + 2);
            }
            x.bit(1, 3, true);
            x.bit(64, 3, true);
            x.request(64, true);
            x.wake(1, 0);
            boolean one = last == 8;
            due("chain up to " + last + ": needs", x.needs(1, 1), one ? 1 : 0);
            // Node 49, 33 and 17 wake with node 1, and all send until 19.
            stateIs("chain up to " + last + ": waits", x, 1, 29, one ? Given.READY : Given.PREPARED);
            stateIs("chain up to " + last + ": waits on", x, 1, 500, one ? Given.READY : Given.SLEEP);
        }
        BusSleep y = new BusSleep(64);
        due("in between: 1 and 5", y.coordinate(1, 5), 2);
        due("in between: 8 and 4", y.coordinate(8, 4), 2);
        due("in between: not yet", held(y, 8), Given.PREPARED);
        BusSleep z = new BusSleep(64);
        z.coordinate(1, 5);
        z.coordinate(8, 4);
        due("in between: 4 and 5", z.coordinate(4, 5), 4);
        due("in between: by two others", held(z, 8), Given.READY);
    }

    /** Node 1's state at 29, when all rows on its bus ended at 19 and the other bus is awake. */
    private static int held(BusSleep x, int bus) {
        x.request(bus * 8, true);
        x.wake(1, 0);
        return Given.stateAt(x, 1, 29);
    }

    // "They are STILL when no node on them is in REPEAT or NORMAL"

    private static void stillNeedsNoneAwake() {
        for (int state : STATES) {
            boolean still = state != Given.REPEAT && state != Given.NORMAL;
            int want = still ? Given.PREPARED : Given.READY;
            // Node 1 looks before node 2, so that it cannot be in PREPARED while node 2 is READY.
            if (state != Given.PREPARED) {
                due("own bus, another in " + state, lookAt29(state, 1, false), want);
            }
            due("coordinated, another in " + state, lookAt29(state, 9, true), want);
            due("apart, another in " + state, lookAt29(state, 9, false), Given.PREPARED);
        }
    }

    /** Node 2, last heard at 19, looks at 29, when the other is in the state. */
    private static int lookAt29(int state, int other, boolean coordinated) {
        BusSleep x = new BusSleep(9);
        x.wake(2, 0);
        bringTo(x, state, other);
        x.tick(28);
        if (coordinated) {
            x.coordinate(1, 2);
        }
        return Given.stateAt(x, 2, 29);
    }

    private static void bringTo(BusSleep x, int state, int other) {
        int[] wokenAt = {-1, 5, 8, -1, 20};
        if (state == Given.NORMAL && other == 9) {
            x.request(9, true);
        } else if (state == Given.NORMAL) {
            // Node 2 would hear its rows, so it comes to NORMAL only in the tick of the look.
            x.wake(other, 0);
            x.tick(28);
            x.request(other, true);
        } else if (wokenAt[state] >= 0) {
            x.passive(other, true);
            x.wake(other, wokenAt[state]);
        }
    }

    // "and HEARD of all nodes on them that are READY is 10 ticks ago or more"

    private static void stillNeedsHeard10Ago() {
        // Node 1 alone was heard at 24. With a row besides at 28 on the coordinated bus both wait.
        for (int coordinated = 0; coordinated <= 1; coordinated++) {
            BusSleep x = new BusSleep(16);
            x.wake(1, 5);
            x.wake(9, 5);
            if (coordinated == 1) {
                x.coordinate(1, 2);
            }
            due("a row besides of node 9, in READY", x.alive(9, 28), 0);
            stateIs("HEARD of node 1 9 ticks ago", x, 1, 33, Given.READY);
            stateIs("HEARD of node 1 10 ticks ago", x, 1, 34, coordinated == 1 ? Given.READY : Given.PREPARED);
            due("HEARD of node 9 9 ticks ago", x.tick(37), 0);
            due("HEARD of node 9 9 ticks ago", x.state(9), Given.READY);
            due("HEARD of node 9 10 ticks ago", x.tick(38), 1 + coordinated);
            due("HEARD of node 9 10 ticks ago", x.state(9), Given.PREPARED);
        }
    }

    private static void stillLooksAtReadyAlone() {
        // Node 9 in PREPARED is heard at 33 by its own row; node 1 in READY was heard at 24.
        BusSleep x = new BusSleep(16);
        x.wake(9, 0);
        x.wake(1, 5);
        x.tick(29);
        x.coordinate(1, 2);
        due("PREPARED: a row besides", x.alive(9, 33), 0);
        stateIs("READY looks at one in PREPARED", x, 1, 34, Given.PREPARED);
        // Node 9 was heard at 26, but it was OUT at 28 and is in again, in SLEEP.
        BusSleep y = heardAt26AndOutAt28();
        y.limp(9, 28);
        stateIs("READY looks at one in SLEEP", y, 1, 33, Given.READY);
        stateIs("READY looks at one in SLEEP", y, 1, 34, Given.PREPARED);
    }

    /** Node 1 was last heard at 24; its buses are 1 and 2. */
    private static BusSleep heardAt26AndOutAt28() {
        BusSleep x = new BusSleep(16);
        x.coordinate(1, 2);
        x.wake(1, 5);
        x.wake(9, 5);
        x.alive(9, 26);
        x.limp(9, 28);
        return x;
    }

    // "Nodes that are OUT, and numbers of buses without nodes, do not matter for anything"

    private static void outDoesNotMatter() {
        BusSleep ready = heardAt26AndOutAt28();
        stateIs("READY looks at one that is OUT", ready, 1, 33, Given.READY);
        stateIs("READY looks at one that is OUT", ready, 1, 34, Given.PREPARED);
        // Node 9 would hold node 1 for ever, but for its being OUT from 28 on.
        for (int out = 0; out <= 1; out++) {
            BusSleep x = new BusSleep(16);
            x.coordinate(1, 2);
            x.wake(1, 0);
            x.request(9, true);
            x.tick(28);
            if (out == 1) {
                x.limp(9, 28);
            }
            stateIs("NORMAL, OUT " + out, x, 1, 29, out == 1 ? Given.PREPARED : Given.READY);
        }
        BusSleep all = new BusSleep(3);
        for (int node = 1; node <= 3; node++) {
            all.request(node, true);
        }
        for (int node = 1; node <= 3; node++) {
            all.limp(node, 0);
            due("OUT: " + node + " of 3", all.sleeps(), node == 3);
        }
    }

    private static void busesWithoutNodes() {
        int[] nodes = {8, 9, 16, 17, 56, 57};
        for (int count : nodes) {
            int buses = (count + 7) / 8;
            due("last bus of " + count, new BusSleep(count).coordinate(1, buses), buses == 1 ? -2 : 2);
            due("one more bus than of " + count, new BusSleep(count).coordinate(1, buses + 1), -1);
        }
    }

    // "it is refused (-2) when it is less than the time at hand, or more than 1000 ticks on"

    private static void timeNotLessAndNotTooFar() {
        long[] hands = {0, 1, 500, 1000, 99_000};
        for (long hand : hands) {
            for (int call = 0; call < 5; call++) {
                String what = "call " + call + " at " + hand + " with ";
                due(what + "one less", timed(hand, call, hand - 1), -2);
                due(what + "the same", timed(hand, call, hand), fits(call));
                due(what + "1000 on", timed(hand, call, hand + 1000), fits(call));
                due(what + "1001 on", timed(hand, call, hand + 1001), -2);
                due(what + "2^32 on", timed(hand, call, hand + (1L << 32)), -2);
                due(what + "2^32 less", timed(hand, call, hand - (1L << 32)), -2);
                due(what + "the greatest", timed(hand, call, Long.MAX_VALUE), -2);
                due(what + "the least", timed(hand, call, Long.MIN_VALUE), -2);
                due(what + "the least and some", timed(hand, call, Long.MIN_VALUE + hand), -2);
            }
        }
    }

    private static int timed(long hand, int call, long t) {
        BusSleep x = new BusSleep(8);
        for (long now = 0; now < hand; now += 1000) {
            x.tick(Math.min(hand, now + 1000));
        }
        x.request(1, true);
        switch (call) {
            case 0:
                return x.alive(1, t);
            case 1:
                return x.tick(t) < 0 ? -2 : 0;
            case 2:
                return x.wake(2, t);
            case 3:
                return x.needs(1, t);
            default:
                return x.limp(1, t);
        }
    }

    /** What the call answers to a time that fits: node 1 is awake alone and has no BITS. */
    private static int fits(int call) {
        return call == 2 || call == 4 ? 1 : 0;
    }

    // "Calls with a time let time go on to it at first (all its ticks, the last one too)"

    private static void allTicksTheLastOneToo() {
        due("tick: 19", new20().tick(19), 0);
        due("tick: 20", new20().tick(20), 1);
        BusSleep x = Given.at30(Given.PREPARED, 8, 1);
        due("alive: in PREPARED at 33", x.alive(1, 33), 0);
        BusSleep y = Given.at30(Given.PREPARED, 8, 1);
        due("alive: in SLEEP at 34", y.alive(1, 34), -3);
        due("wake: READY at 28", new20().wake(1, 28), 0);
        due("wake: PREPARED at 29", new20().wake(1, 29), 1);
        BusSleep z = new BusSleep(1);
        z.bit(1, 0, true);
        z.request(1, true);
        due("needs: no row at 0", z.needs(1, 0), 0);
        due("needs: a row at 1", z.needs(1, 1), 1);
        for (int out = 3; out <= 4; out++) {
            BusSleep w = new BusSleep(1);
            w.bit(1, 0, true);
            w.request(1, true);
            w.limp(1, out);
            lastCalledAt("limp at " + out, w, 1, out == 3 ? 1 : 4);
        }
        BusSleep far = new20();
        due("1000 ticks at once: to READY, PREPARED, SLEEP", far.tick(1000), 3);
    }

    private static BusSleep new20() {
        BusSleep x = new BusSleep(1);
        x.wake(1, 0);
        return x;
    }
}
