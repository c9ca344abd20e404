/** The states' numbers, and objects led to where a test begins. */
final class Given {
    static final int SLEEP = 0;
    static final int PREPARED = 1;
    static final int READY = 2;
    static final int NORMAL = 3;
    static final int REPEAT = 4;

    private Given() {
    }

    static int stateAt(BusSleep x, int node, long t) {
        x.tick(t);
        return x.state(node);
    }

    /** At time 30 the node (up to 16) is in the state, and all others sleep; only NORMAL is ASKED. */
    static BusSleep at30(int state, int nodes, int node) {
        BusSleep x = new BusSleep(nodes);
        switch (state) {
            case PREPARED:
                x.wake(node, 0);
                break;
            case READY:
                x.wake(node, 5);
                break;
            case NORMAL:
                x.request(node, true);
                break;
            case REPEAT:
                x.wake(node, 15);
                break;
            default:
                break;
        }
        x.tick(30);
        return x;
    }

    /** At time 30 it is in PREPARED (since 29) and WANTS, for it was asked while it was PASSIVE. */
    static BusSleep preparedAndWants(int nodes, int node) {
        BusSleep x = at30(PREPARED, nodes, node);
        x.passive(node, true);
        x.request(node, true);
        x.passive(node, false);
        return x;
    }
}
