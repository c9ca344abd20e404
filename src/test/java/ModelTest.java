import java.util.Random;

/** Long runs of mixed calls, answered by BusSleep and by a slow writing of the document's words. */
public final class ModelTest {
    private static final int RUNS = 1500;
    private static final int CALLS = 512;
    private static final int[] SIZES = {1, 2, 3, 4, 8, 9, 10, 16, 17, 20, 24, 40, 63, 64, 0, 65, -5};

    private static final Check CHECK = new Check();

    private final Random random;
    private final int size;
    private final int nodes;
    private final BusSleep real;
    private final Model model;
    /** How far a call lets time go on as a rule: short steps see the edges, long ones sleep. */
    private final int stride;
    private final StringBuilder calls = new StringBuilder();

    private ModelTest(int seed) {
        random = new Random(seed);
        size = SIZES[seed % SIZES.length];
        nodes = size >= 1 && size <= 64 ? size : 8;
        stride = 1 + random.nextInt(12);
        real = new BusSleep(size);
        model = new Model(nodes);
    }

    public static void main(String[] args) {
        for (int seed = 0; seed < RUNS && !CHECK.failed(); seed++) {
            new ModelTest(seed).run(seed);
        }
        CHECK.end();
    }

    private void run(int seed) {
        for (int i = 0; i < CALLS && !CHECK.failed(); i++) {
            call();
        }
        if (CHECK.failed()) {
            System.out.println("seed " + seed + ", BusSleep(" + size + "):" + calls);
        }
    }

    private void due(String call, long got, long want) {
        calls.append(' ').append(call).append('=').append(want);
        CHECK.due(call, got, want);
    }

    private void call() {
        int n = node();
        long t = time();
        boolean on = random.nextInt(5) < 2;
        switch (random.nextInt(16)) {
            case 0: case 1:
                due("request(" + n + ", " + on + ")", real.request(n, on), model.request(n, on));
                break;
            case 2: case 3:
                due("alive(" + n + ", " + t + ")", real.alive(n, t), model.alive(n, t));
                break;
            case 4: case 5: case 6:
                due("tick(" + t + ")", real.tick(t), model.tick(t));
                break;
            case 7: case 8:
                due("state(" + n + ")", real.state(n), model.state(n));
                break;
            case 9:
                int frame = random.nextInt(20) == 0 ? random.nextInt(5000) - 2000 : random.nextInt(2048);
                due("wake(" + frame + ", " + t + ")", real.wake(frame, t), model.wake(frame, t));
                break;
            case 10:
                int b = random.nextInt(10) == 0 ? random.nextInt(40) - 4 : random.nextInt(3) * 15 + 1;
                due("bit(" + n + ", " + b + ", " + on + ")", real.bit(n, b, on), model.bit(n, b, on));
                break;
            case 11: case 12:
                due("needs(" + n + ", " + t + ")", real.needs(n, t), model.needs(n, t));
                break;
            case 13:
                coordinateNowAndThen();
                break;
            case 14:
                due("passive(" + n + ", " + on + ")", real.passive(n, on), model.passive(n, on));
                break;
            default:
                lookOrLimp(n, t);
                break;
        }
    }

    private void coordinateNowAndThen() {
        // Seldom, or all buses would soon be one in every run.
        if (random.nextInt(8) != 0) {
            return;
        }
        int bus = random.nextInt(10);
        int other = random.nextInt(10);
        due("coordinate(" + bus + ", " + other + ")", real.coordinate(bus, other), model.coordinate(bus, other));
    }

    private void lookOrLimp(int n, long t) {
        switch (random.nextInt(3)) {
            case 0:
                int i = random.nextInt(5) - 1;
                due("never(" + i + ")", real.never(i), model.never(i));
                break;
            case 1:
                due("limp(" + n + ", " + t + ")", real.limp(n, t), model.limp(n, t));
                break;
            default:
                due("sleeps()", real.sleeps() ? 1 : 0, model.sleeps() ? 1 : 0);
                break;
        }
    }

    private int node() {
        return random.nextInt(30) == 0 ? random.nextInt(70) - 2 : 1 + random.nextInt(nodes);
    }

    private long time() {
        int kind = random.nextInt(100);
        if (kind < 3) {
            return model.now - 1 - random.nextInt(5);
        }
        if (kind < 5) {
            return model.now + 995 + random.nextInt(10);
        }
        if (kind < 10) {
            return model.now + random.nextInt(60);
        }
        return model.now + random.nextInt(stride);
    }

    /** The document's words, one by one, with nothing kept that can be looked up. */
    private static final class Model {
        final int count;
        long now;
        final int[] state = new int[65];
        final long[] since = new long[65];
        final long[] heard = new long[65];
        final boolean[] asked = new boolean[65];
        final boolean[] passive = new boolean[65];
        final boolean[] out = new boolean[65];
        final boolean[][] bits = new boolean[65][32];
        final long[] wokeAt = new long[65];
        final long[] lastRow = new long[65];
        final boolean[] sentSinceWaking = new boolean[65];
        final boolean[][] pairs = new boolean[9][9];
        final boolean[][] wasCalled = new boolean[9][32];
        final long[][] calledAt = new long[9][32];

        Model(int count) {
            this.count = count;
        }

        int bus(int n) {
            return 1 + (n - 1) / 8;
        }

        boolean known(int n) {
            return n >= 1 && n <= count;
        }

        boolean wants(int n) {
            return asked[n] && !passive[n];
        }

        boolean badTime(long t) {
            return t < now || t > now + 1000;
        }

        void wakeOne(int n) {
            state[n] = 4;
            since[n] = now;
            heard[n] = now;
            wokeAt[n] = now;
            sentSinceWaking[n] = false;
        }

        int row(int n) {
            int others = 0;
            heard[n] = now;
            for (int m = 1; m <= count; m++) {
                if (m == n || bus(m) != bus(n) || out[m] || state[m] == 0) {
                    continue;
                }
                others++;
                heard[m] = now;
                if (state[m] == 1) {
                    wakeOne(m);
                }
            }
            for (int b = 0; b < 32; b++) {
                if (wants(n) && bits[n][b]) {
                    wasCalled[bus(n)][b] = true;
                    calledAt[bus(n)][b] = now;
                }
            }
            return others;
        }

        boolean[] busesOf(int first) {
            boolean[] in = new boolean[9];
            in[first] = true;
            for (int round = 0; round < 9; round++) {
                for (int a = 1; a <= 8; a++) {
                    for (int b = 1; b <= 8; b++) {
                        if (in[a] && (pairs[a][b] || pairs[b][a])) {
                            in[b] = true;
                        }
                    }
                }
            }
            return in;
        }

        boolean still(int n) {
            boolean[] in = busesOf(bus(n));
            for (int m = 1; m <= count; m++) {
                if (!in[bus(m)] || out[m]) {
                    continue;
                }
                if (state[m] == 4 || state[m] == 3 || state[m] == 2 && now - heard[m] < 10) {
                    return false;
                }
            }
            return true;
        }

        int nextState(int n) {
            long ago = now - since[n];
            if (state[n] == 4) {
                return ago < 20 ? 4 : wants(n) ? 3 : 2;
            }
            if (state[n] == 3) {
                return wants(n) ? 3 : 2;
            }
            if (state[n] == 2) {
                return wants(n) ? 3 : still(n) ? 1 : 2;
            }
            return state[n] == 1 && ago < 5 ? 1 : 0;
        }

        boolean sendsNow(int n) {
            if (state[n] != 4 && state[n] != 3 || passive[n]) {
                return false;
            }
            return sentSinceWaking[n] ? now - lastRow[n] >= 3 : wokeAt[n] < now;
        }

        int oneTick() {
            int changes = 0;
            now++;
            for (int n = 1; n <= count; n++) {
                int next = nextState(n);
                if (next != state[n]) {
                    state[n] = next;
                    since[n] = now;
                    changes++;
                }
            }
            for (int n = 1; n <= count; n++) {
                if (sendsNow(n)) {
                    int prepared = prepared();
                    row(n);
                    changes += prepared - prepared();
                    lastRow[n] = now;
                    sentSinceWaking[n] = true;
                }
            }
            return changes;
        }

        int prepared() {
            int sum = 0;
            for (int n = 1; n <= count; n++) {
                sum += state[n] == 1 ? 1 : 0;
            }
            return sum;
        }

        int goOn(long t) {
            int changes = 0;
            while (now < t) {
                changes += oneTick();
            }
            return changes;
        }

        int request(int n, boolean on) {
            if (!known(n)) {
                return -1;
            }
            if (out[n]) {
                return -3;
            }
            asked[n] = on;
            if (wants(n) && state[n] < 2) {
                wakeOne(n);
            }
            return state[n];
        }

        int alive(int n, long t) {
            if (!known(n)) {
                return -1;
            }
            if (badTime(t)) {
                return -2;
            }
            if (out[n] || passive[n]) {
                return -3;
            }
            goOn(t);
            return state[n] == 0 ? -3 : row(n);
        }

        int tick(long t) {
            return badTime(t) ? -2 : goOn(t);
        }

        int state(int n) {
            return known(n) ? state[n] : -1;
        }

        int wake(int frame, long t) {
            if (frame < 0 || frame > 2047 || badTime(t)) {
                return -2;
            }
            goOn(t);
            int woken = 0;
            for (int n = 1; n <= count; n++) {
                if (state[n] < 2 && !out[n] && n % 16 == frame % 16) {
                    wakeOne(n);
                    woken++;
                }
            }
            return woken;
        }

        int bit(int n, int b, boolean on) {
            if (!known(n)) {
                return -1;
            }
            if (b < 0 || b > 31) {
                return -2;
            }
            bits[n][b] = on;
            int sum = 0;
            for (boolean one : bits[n]) {
                sum += one ? 1 : 0;
            }
            return sum;
        }

        int needs(int n, long t) {
            if (!known(n)) {
                return -1;
            }
            if (badTime(t)) {
                return -2;
            }
            goOn(t);
            boolean[] in = busesOf(bus(n));
            for (int bus = 1; bus <= 8; bus++) {
                for (int b = 0; b < 32; b++) {
                    if (in[bus] && bits[n][b] && wasCalled[bus][b] && now - calledAt[bus][b] <= 10) {
                        return 1;
                    }
                }
            }
            return 0;
        }

        int coordinate(int bus, int other) {
            int last = bus(count);
            if (bus < 1 || bus > last || other < 1 || other > last) {
                return -1;
            }
            if (bus == other) {
                return -2;
            }
            pairs[bus][other] = true;
            int sum = 0;
            for (boolean in : busesOf(bus)) {
                sum += in ? 1 : 0;
            }
            return sum;
        }

        int passive(int n, boolean on) {
            if (!known(n)) {
                return -1;
            }
            passive[n] = on;
            return state[n];
        }

        int never(int i) {
            int found = 0;
            for (int n = 1; n <= count; n++) {
                if (state[n] == 3 && now - since[n] >= 200) {
                    if (found == i) {
                        return n;
                    }
                    found++;
                }
            }
            return 0;
        }

        int limp(int n, long t) {
            if (!known(n)) {
                return -1;
            }
            if (badTime(t)) {
                return -2;
            }
            goOn(t);
            out[n] = !out[n];
            state[n] = 0;
            asked[n] = false;
            return out[n] ? 1 : 0;
        }

        boolean sleeps() {
            for (int n = 1; n <= count; n++) {
                if (state[n] != 0) {
                    return false;
                }
            }
            return true;
        }
    }
}
