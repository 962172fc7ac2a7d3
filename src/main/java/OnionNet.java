import java.util.Arrays;

/**
 * An onion network in steps: relays and clients that hand cells over links. Bytes stand in int
 * rows as 0 .. 255, so that none of them has to be freed of a sign.
 */
public final class OnionNet {
    public static final int NONE = -1;

    private static final int MOST_RELAYS = 6;
    private static final int FIRST_CLIENT = 8;
    private static final int MOST_CLIENTS = 2;
    private static final int NUMBERS = 10;
    private static final int MOST_CIRCUITS = 6;
    private static final int MOST_SETTLED = 200;
    private static final int MOST_WEIGHT = 1000;

    private static final int CELL = 140;
    private static final int PAYLOAD = 135;
    private static final int CREATE = 10;
    private static final int CREATED = 11;
    private static final int RELAY = 3;
    private static final int DESTROY = 4;

    private static final int BEGIN = 1;
    private static final int DATA = 2;
    private static final int END = 3;
    private static final int CONNECTED = 4;
    private static final int SENDME = 5;
    private static final int EXTEND = 14;
    private static final int EXTENDED = 15;

    private static final int AT_COMMAND = 4;
    private static final int AT_PAYLOAD = 5;
    private static final int AT_STREAM = 8;
    private static final int AT_DIGEST = 10;
    private static final int AT_LENGTH = 14;
    private static final int AT_DATA = 16;
    private static final int MOST_DATA = 124;

    private static final int OFFER = 68;
    private static final int ANSWER = 64;
    private static final int KEY = 32;
    private static final int MARK = 4;

    private static final int MOST_STREAMS = 4;
    private static final int WINDOW = 4;
    private static final int MORE_WINDOW = 2;
    private static final int MOST_KEPT = 2000;
    private static final int MOST_WAITING = 400;

    /** Phases of circuits and of streams; a circuit's 0 is BUILDING, a stream's is WAITING. */
    private static final int STARTED = 0;
    private static final int OPEN = 1;
    private static final int GONE = 2;

    private final Relay[] relays = new Relay[MOST_RELAYS];
    private final Node[] clients = new Node[MOST_CLIENTS];
    private final Circuit[] circuits = new Circuit[MOST_CIRCUITS];
    private final Link[] links = new Link[NUMBERS * NUMBERS];
    private final Handshake handshake = new Handshake();
    private final Outbox out = new Outbox();
    private final int[] cell = new int[CELL];
    private final int[] hashed = new int[KEY];
    private int relayCount;
    private int clientCount;
    private int circuitCount;

    public OnionNet() {
    }

    public int relay(long seed) {
        if (relayCount >= MOST_RELAYS) {
            return NONE;
        }
        int number = relayCount;
        Relay made = new Relay(new Node(number, seed, Relay.FIRST_NUMBER), relays, handshake);
        handshake.identify(made);
        linkUp(number);
        relays[number] = made;
        relayCount++;
        return number;
    }

    public int client(long seed) {
        if (clientCount >= MOST_CLIENTS) {
            return NONE;
        }
        int number = FIRST_CLIENT + clientCount;
        linkUp(number);
        clients[clientCount] = new Node(number, seed, 1);
        clientCount++;
        return number;
    }

    public int key(int relay, int i) {
        Relay asked = relayAt(relay);
        if (asked == null || i < 0 || i >= KEY + MARK) {
            return NONE;
        }
        return i < KEY ? asked.identity[MARK + i] : asked.identity[i - KEY];
    }

    public boolean weigh(int relay, int w) {
        Relay asked = relayAt(relay);
        if (asked == null || w < 0 || w > MOST_WEIGHT) {
            return false;
        }
        asked.weight = w;
        return true;
    }

    public int path(long word, int k) {
        if (k < 0 || k > 2) {
            return NONE;
        }
        int drawn = 0;
        int relay = NONE;
        for (int i = 0; i <= k; i++) {
            relay = drawnRelay((int) (word >>> (20 * i)) & 0xFFFFF, drawn);
            if (relay == NONE) {
                return NONE;
            }
            drawn |= 1 << relay;
        }
        return relay;
    }

    public int seal(int i) {
        if (i < 0 || i >= KEY) {
            return NONE;
        }
        handshake.hashTable(relays, hashed);
        return hashed[i];
    }

    public int circuit(int client, int a, int b, int c) {
        Node owner = clientAt(client);
        if (owner == null || circuitCount >= MOST_CIRCUITS || !isPath(a, b, c)) {
            return NONE;
        }
        int length = b == NONE ? 1 : c == NONE ? 2 : 3;
        Relay[] over = new Relay[length];
        over[0] = relayAt(a);
        if (length > 1) {
            over[1] = relayAt(b);
        }
        if (length > 2) {
            over[2] = relayAt(c);
        }
        int number = circuitCount;
        Circuit made = new Circuit(owner, owner.nextNumber, over, handshake);
        owner.nextNumber++;
        circuits[number] = made;
        circuitCount++;
        made.begin(out);
        sendAll(client);
        return number;
    }

    public int stream(int circuit, int port) {
        Circuit asked = circuitAt(circuit);
        if (asked == null || port < 0 || port > 255) {
            return NONE;
        }
        int number = asked.addStream(port, out);
        sendAll(asked.client.number);
        return number;
    }

    public boolean put(int circuit, int stream, int b) {
        Stream asked = streamAt(circuit, stream);
        return asked != null && asked.queue(b & 255);
    }

    public int push(int circuit, int stream) {
        Circuit within = circuitAt(circuit);
        Stream asked = streamAt(circuit, stream);
        if (within == null || asked == null) {
            return NONE;
        }
        if (asked.waits == 0 || asked.phase != OPEN || asked.window == 0) {
            return 0;
        }
        int count = Math.min(asked.waits, MOST_DATA);
        asked.unqueue(within.toLast(out, DATA, stream, count), count);
        asked.window--;
        within.sealAll(out);
        sendAll(within.client.number);
        return count;
    }

    public boolean close(int circuit, int stream) {
        Circuit within = circuitAt(circuit);
        Stream asked = streamAt(circuit, stream);
        if (within == null || asked == null || asked.phase == GONE) {
            return false;
        }
        within.toLast(out, END, stream, 0);
        within.sealAll(out);
        asked.phase = GONE;
        sendAll(within.client.number);
        return true;
    }

    public boolean destroy(int circuit) {
        Circuit asked = circuitAt(circuit);
        if (asked == null || asked.phase == GONE) {
            return false;
        }
        asked.fall(out);
        sendAll(asked.client.number);
        return true;
    }

    public int deliver(int from, int to) {
        Link link = linkAt(from, to);
        if (link == null || link.count == 0) {
            return NONE;
        }
        return handOver(from, to, link);
    }

    public boolean drop(int from, int to) {
        Link link = linkAt(from, to);
        return link != null && link.takeFirst(cell);
    }

    public boolean alter(int from, int to, int at, int mask) {
        Link link = linkAt(from, to);
        if (link == null || link.count == 0 || at < 0 || at >= CELL || mask < 1 || mask > 255) {
            return false;
        }
        link.changeFirst(at, mask);
        return true;
    }

    public int waiting(int from, int to) {
        Link link = linkAt(from, to);
        return link == null ? NONE : link.count;
    }

    public int look(int from, int to, int k, int i) {
        Link link = linkAt(from, to);
        return link == null ? NONE : link.byteOf(k, i);
    }

    public int settle(int n) {
        if (n < 1 || n > MOST_SETTLED) {
            return NONE;
        }
        int handed = 0;
        boolean more = true;
        for (int round = 0; round < n && more; round++) {
            more = false;
            for (int at = 0; at < links.length && handed < n; at++) {
                Link link = links[at];
                if (link != null && link.count > 0) {
                    handOver(at / NUMBERS, at % NUMBERS, link);
                    handed++;
                    more = true;
                }
            }
        }
        return handed;
    }

    public int state(int circuit) {
        Circuit asked = circuitAt(circuit);
        return asked == null ? NONE : asked.phase;
    }

    public int hops(int circuit) {
        Circuit asked = circuitAt(circuit);
        return asked == null ? NONE : asked.joined;
    }

    public int told(int circuit, int stream, int what) {
        Stream asked = streamAt(circuit, stream);
        if (asked == null) {
            return NONE;
        }
        switch (what) {
            case 0: return asked.phase;
            case 1: return asked.window;
            case 2: return asked.waits;
            case 3: return asked.keptCount;
            default: return NONE;
        }
    }

    public int got(int circuit, int stream, int i) {
        Stream asked = streamAt(circuit, stream);
        if (asked == null || i < 0 || i >= asked.keptCount) {
            return NONE;
        }
        return asked.kept[i];
    }

    public int kept(int relay, int i) {
        Relay asked = relayAt(relay);
        if (asked == null || i < 0 || i >= asked.keptCount) {
            return NONE;
        }
        return asked.kept[i];
    }

    public int has(int relay, int what) {
        Relay asked = relayAt(relay);
        if (asked == null) {
            return NONE;
        }
        switch (what) {
            case 0: return asked.entryCount();
            case 1: return asked.streamCount();
            case 2: return asked.keptCount;
            default: return NONE;
        }
    }

    private Relay relayAt(int number) {
        return number < 0 || number >= MOST_RELAYS ? null : relays[number];
    }

    private Node clientAt(int number) {
        int at = number - FIRST_CLIENT;
        return number < FIRST_CLIENT || at >= MOST_CLIENTS ? null : clients[at];
    }

    private Circuit circuitAt(int number) {
        return number < 0 || number >= MOST_CIRCUITS ? null : circuits[number];
    }

    private Stream streamAt(int circuit, int number) {
        Circuit within = circuitAt(circuit);
        return within == null ? null : within.streamOf(number);
    }

    private Link linkAt(int from, int to) {
        if (from < 0 || from >= NUMBERS || to < 0 || to >= NUMBERS) {
            return null;
        }
        return links[from * NUMBERS + to];
    }

    private void linkUp(int number) {
        for (int other = 0; other < NUMBERS; other++) {
            if (relayAt(other) != null || clientAt(other) != null) {
                links[number * NUMBERS + other] = new Link();
                links[other * NUMBERS + number] = new Link();
            }
        }
    }

    /** A relay that is not among the drawn ones (a bit each), by twenty bits of a word. */
    private int drawnRelay(int bits, int drawn) {
        int total = 0;
        for (int i = 0; i < relayCount; i++) {
            total += (drawn >>> i & 1) == 0 ? relays[i].weight : 0;
        }
        if (total == 0) {
            return NONE;
        }
        int n = bits % total;
        int sum = 0;
        for (int i = 0; i < relayCount; i++) {
            sum += (drawn >>> i & 1) == 0 ? relays[i].weight : 0;
            if (sum > n) {
                return i;
            }
        }
        return NONE;
    }

    private boolean isPath(int a, int b, int c) {
        if (relayAt(a) == null || b == NONE && c != NONE) {
            return false;
        }
        boolean second = b == NONE || relayAt(b) != null && b != a;
        boolean third = c == NONE || relayAt(c) != null && c != a && c != b;
        return second && third;
    }

    private int handOver(int from, int to, Link link) {
        link.takeFirst(cell);
        int command = cell[AT_COMMAND];
        int number = Outbox.numberOf(cell);
        Relay relay = relayAt(to);
        Circuit circuit = relay == null ? circuitBy(to, from, number) : null;
        if (relay != null) {
            relay.takeCell(from, number, cell, out);
        } else if (circuit != null) {
            circuit.takeCell(cell, out);
        }
        sendAll(to);
        return command;
    }

    private Circuit circuitBy(int client, int firstRelay, int number) {
        for (int i = 0; i < circuitCount; i++) {
            Circuit one = circuits[i];
            if (one.client.number == client && one.number == number
                    && one.firstRelay() == firstRelay && one.phase != GONE) {
                return one;
            }
        }
        return null;
    }

    /** Leaves the outbox empty for the next call. */
    private void sendAll(int from) {
        for (int i = 0; i < out.count; i++) {
            Link link = linkAt(from, out.to[i]);
            if (link != null) {
                link.add(out.cells[i]);
            }
        }
        out.empty();
    }

    /** SHA-256, fed piece by piece; the running digests copy one before they end it. */
    private static final class Sha {
        static final int[] START = {
            0x6a09e667, 0xbb67ae85, 0x3c6ef372, 0xa54ff53a,
            0x510e527f, 0x9b05688c, 0x1f83d9ab, 0x5be0cd19};
        static final int[] ROUNDS = {
            0x428a2f98, 0x71374491, 0xb5c0fbcf, 0xe9b5dba5, 0x3956c25b, 0x59f111f1, 0x923f82a4, 0xab1c5ed5,
            0xd807aa98, 0x12835b01, 0x243185be, 0x550c7dc3, 0x72be5d74, 0x80deb1fe, 0x9bdc06a7, 0xc19bf174,
            0xe49b69c1, 0xefbe4786, 0x0fc19dc6, 0x240ca1cc, 0x2de92c6f, 0x4a7484aa, 0x5cb0a9dc, 0x76f988da,
            0x983e5152, 0xa831c66d, 0xb00327c8, 0xbf597fc7, 0xc6e00bf3, 0xd5a79147, 0x06ca6351, 0x14292967,
            0x27b70a85, 0x2e1b2138, 0x4d2c6dfc, 0x53380d13, 0x650a7354, 0x766a0abb, 0x81c2c92e, 0x92722c85,
            0xa2bfe8a1, 0xa81a664b, 0xc24b8b70, 0xc76c51a3, 0xd192e819, 0xd6990624, 0xf40e3585, 0x106aa070,
            0x19a4c116, 0x1e376c08, 0x2748774c, 0x34b0bcb5, 0x391c0cb3, 0x4ed8aa4a, 0x5b9cca4f, 0x682e6ff3,
            0x748f82ee, 0x78a5636f, 0x84c87814, 0x8cc70208, 0x90befffa, 0xa4506ceb, 0xbef9a3f7, 0xc67178f2};

        final int[] state = new int[8];
        /** The first sixteen gather the block, the rest is reckoned from them. */
        final int[] words = new int[64];
        int length;

        void start() {
            System.arraycopy(START, 0, state, 0, 8);
            length = 0;
        }

        void copy(Sha other) {
            System.arraycopy(other.state, 0, state, 0, 8);
            System.arraycopy(other.words, 0, words, 0, 16);
            length = other.length;
        }

        void add(int[] row, int at, int count) {
            int end = Math.min(row.length, at + count);
            for (int i = Math.max(at, 0); i < end; i++) {
                int word = (length & 63) >>> 2;
                int before = (length & 3) == 0 ? 0 : words[word];
                words[word] = before | row[i] << (24 - 8 * (length & 3));
                length++;
                if ((length & 63) == 0) {
                    mix();
                }
            }
        }

        /** What comes after the end starts anew, or copies another. */
        void end(int[] result) {
            int word = (length & 63) >>> 2;
            int before = (length & 3) == 0 ? 0 : words[word];
            words[word] = before | 0x80 << (24 - 8 * (length & 3));
            Arrays.fill(words, word + 1, 16, 0);
            if (word >= 14) {
                mix();
                Arrays.fill(words, 0, 14, 0);
            }
            words[14] = length >>> 29;
            words[15] = length << 3;
            mix();
            int bytes = Math.min(result.length, KEY);
            for (int i = 0; i < bytes; i++) {
                result[i] = state[i >>> 2] >>> (24 - 8 * (i & 3)) & 255;
            }
        }

        private void mix() {
            for (int i = 16; i < 64; i++) {
                int p = words[i - 15];
                int q = words[i - 2];
                int less = (p >>> 7 | p << 25) ^ (p >>> 18 | p << 14) ^ p >>> 3;
                int more = (q >>> 17 | q << 15) ^ (q >>> 19 | q << 13) ^ q >>> 10;
                words[i] = words[i - 16] + less + words[i - 7] + more;
            }
            int a = state[0];
            int b = state[1];
            int c = state[2];
            int d = state[3];
            int e = state[4];
            int f = state[5];
            int g = state[6];
            int h = state[7];
            for (int i = 0; i < 64; i++) {
                int high = (e >>> 6 | e << 26) ^ (e >>> 11 | e << 21) ^ (e >>> 25 | e << 7);
                int one = h + high + (e & f ^ ~e & g) + ROUNDS[i] + words[i];
                int low = (a >>> 2 | a << 30) ^ (a >>> 13 | a << 19) ^ (a >>> 22 | a << 10);
                int two = low + (a & b ^ a & c ^ b & c);
                h = g;
                g = f;
                f = e;
                e = d + one;
                d = c;
                c = b;
                b = a;
                a = one + two;
            }
            state[0] += a;
            state[1] += b;
            state[2] += c;
            state[3] += d;
            state[4] += e;
            state[5] += f;
            state[6] += g;
            state[7] += h;
        }
    }

    /** X25519. Field elements are ten limbs of 26 and 25 bits by turns, which may be below zero. */
    private static final class Curve {
        static final int LIMBS = 10;

        final long[] x1 = new long[LIMBS];
        final long[] x2 = new long[LIMBS];
        final long[] z2 = new long[LIMBS];
        final long[] x3 = new long[LIMBS];
        final long[] z3 = new long[LIMBS];
        final long[] a = new long[LIMBS];
        final long[] b = new long[LIMBS];
        final long[] c = new long[LIMBS];
        final long[] d = new long[LIMBS];
        final long[] factor = new long[LIMBS];
        final int[] clamped = new int[KEY];

        Curve() {
            factor[0] = 121665;
        }

        /** All of the point is read before the result is written: both may lie in one row. */
        void times(int[] scalar, int[] point, int at, int[] result, int resultAt) {
            readPoint(point, at);
            System.arraycopy(scalar, 0, clamped, 0, KEY);
            clamped[0] &= 248;
            clamped[31] = clamped[31] & 127 | 64;
            Arrays.fill(x2, 0);
            Arrays.fill(z2, 0);
            Arrays.fill(z3, 0);
            x2[0] = 1;
            z3[0] = 1;
            System.arraycopy(x1, 0, x3, 0, LIMBS);
            for (int i = 254; i >= 0; i--) {
                if ((clamped[i >>> 3] >>> (i & 7) & 1) == 0) {
                    climb(x2, z2, x3, z3);
                } else {
                    climb(x3, z3, x2, z2);
                }
            }
            invert(z2);
            multiply(x2, x2, z2);
            writeReduced(x2, result, resultAt);
        }

        /** One step of the ladder: the first pair is doubled, the second is the sum of both. */
        private void climb(long[] p, long[] pz, long[] q, long[] qz) {
            for (int i = 0; i < LIMBS; i++) {
                a[i] = p[i] + pz[i];
                b[i] = p[i] - pz[i];
                c[i] = q[i] + qz[i];
                d[i] = q[i] - qz[i];
            }
            multiply(d, d, a);
            multiply(c, c, b);
            multiply(a, a, a);
            multiply(b, b, b);
            for (int i = 0; i < LIMBS; i++) {
                q[i] = d[i] + c[i];
                qz[i] = d[i] - c[i];
                c[i] = a[i] - b[i];
            }
            multiply(q, q, q);
            multiply(qz, qz, qz);
            multiply(qz, qz, x1);
            multiply(p, a, b);
            multiply(d, c, factor);
            for (int i = 0; i < LIMBS; i++) {
                d[i] += a[i];
            }
            multiply(pz, c, d);
        }

        /** To the power of 2^255 - 21: ones in 25 rows of ten bits, then the five bits of 11. */
        private void invert(long[] z) {
            System.arraycopy(z, 0, a, 0, LIMBS);
            for (int i = 1; i < 10; i++) {
                multiply(a, a, a);
                multiply(a, a, z);
            }
            System.arraycopy(a, 0, b, 0, LIMBS);
            for (int i = 10; i < 250; i++) {
                multiply(b, b, b);
                if (i % 10 == 9) {
                    multiply(b, b, a);
                }
            }
            for (int i = 4; i >= 0; i--) {
                multiply(b, b, b);
                if ((11 >>> i & 1) == 1) {
                    multiply(b, b, z);
                }
            }
            System.arraycopy(b, 0, z, 0, LIMBS);
        }

        /** The factors may be sums or differences of two products; the result may be a factor. */
        private void multiply(long[] result, long[] f, long[] g) {
            long f0 = f[0], f1 = f[1], f2 = f[2], f3 = f[3], f4 = f[4];
            long f5 = f[5], f6 = f[6], f7 = f[7], f8 = f[8], f9 = f[9];
            long g0 = g[0], g1 = g[1], g2 = g[2], g3 = g[3], g4 = g[4];
            long g5 = g[5], g6 = g[6], g7 = g[7], g8 = g[8], g9 = g[9];
            result[0] = f0 * g0 + 19 * (f2 * g8 + f4 * g6 + f6 * g4 + f8 * g2
                    + 2 * (f1 * g9 + f3 * g7 + f5 * g5 + f7 * g3 + f9 * g1));
            result[1] = f0 * g1 + f1 * g0 + 19 * (f2 * g9 + f3 * g8 + f4 * g7 + f5 * g6
                    + f6 * g5 + f7 * g4 + f8 * g3 + f9 * g2);
            result[2] = f0 * g2 + f2 * g0 + 2 * f1 * g1 + 19 * (f4 * g8 + f6 * g6 + f8 * g4
                    + 2 * (f3 * g9 + f5 * g7 + f7 * g5 + f9 * g3));
            result[3] = f0 * g3 + f1 * g2 + f2 * g1 + f3 * g0
                    + 19 * (f4 * g9 + f5 * g8 + f6 * g7 + f7 * g6 + f8 * g5 + f9 * g4);
            result[4] = f0 * g4 + f2 * g2 + f4 * g0 + 2 * (f1 * g3 + f3 * g1)
                    + 19 * (f6 * g8 + f8 * g6 + 2 * (f5 * g9 + f7 * g7 + f9 * g5));
            result[5] = f0 * g5 + f1 * g4 + f2 * g3 + f3 * g2 + f4 * g1 + f5 * g0
                    + 19 * (f6 * g9 + f7 * g8 + f8 * g7 + f9 * g6);
            result[6] = f0 * g6 + f2 * g4 + f4 * g2 + f6 * g0 + 2 * (f1 * g5 + f3 * g3 + f5 * g1)
                    + 19 * (f8 * g8 + 2 * (f7 * g9 + f9 * g7));
            result[7] = f0 * g7 + f1 * g6 + f2 * g5 + f3 * g4 + f4 * g3 + f5 * g2 + f6 * g1 + f7 * g0
                    + 19 * (f8 * g9 + f9 * g8);
            result[8] = f0 * g8 + f2 * g6 + f4 * g4 + f6 * g2 + f8 * g0
                    + 2 * (f1 * g7 + f3 * g5 + f5 * g3 + f7 * g1) + 38 * f9 * g9;
            result[9] = f0 * g9 + f1 * g8 + f2 * g7 + f3 * g6 + f4 * g5 + f5 * g4 + f6 * g3 + f7 * g2
                    + f8 * g1 + f9 * g0;
            long over = 0;
            for (int i = 0; i < LIMBS; i++) {
                int bits = 26 - (i & 1);
                long limb = result[i] + over;
                over = limb >> bits;
                result[i] = limb - (over << bits);
            }
            long first = result[0] + 19 * over;
            result[0] = first & (1 << 26) - 1;
            result[1] += first >> 26;
        }

        /** The highest bit of the 256 is left out, as it is published. */
        private void readPoint(int[] point, int at) {
            long gathered = 0;
            int have = 0;
            int limb = 0;
            for (int i = 0; i < KEY; i++) {
                gathered |= (long) point[at + i] << have;
                have += 8;
                int bits = 26 - (limb & 1);
                if (have >= bits && limb < LIMBS) {
                    x1[limb] = gathered & (1L << bits) - 1;
                    gathered >>>= bits;
                    have -= bits;
                    limb++;
                }
            }
        }

        private void writeReduced(long[] value, int[] result, int at) {
            long over = 0;
            for (int pass = 0; pass < 3; pass++) {
                value[0] += 19 * over;
                over = carry(value);
            }
            // Below 2^255 now: with 19 more it reaches 2^255 just when it is not below the prime.
            value[0] += 19;
            over = carry(value);
            if (over == 0) {
                value[0] -= 19;
                carry(value);
            }
            long gathered = 0;
            int have = 0;
            int limb = 0;
            for (int i = 0; i < KEY; i++) {
                if (have < 8 && limb < LIMBS) {
                    gathered |= value[limb] << have;
                    have += 26 - (limb & 1);
                    limb++;
                }
                result[at + i] = (int) gathered & 255;
                gathered >>>= 8;
                have -= 8;
            }
        }

        /** What is above 2^255 is taken out and answered. */
        private long carry(long[] value) {
            long over = 0;
            for (int i = 0; i < LIMBS; i++) {
                int bits = 26 - (i & 1);
                long limb = value[i] + over;
                over = limb >> bits;
                value[i] = limb - (over << bits);
            }
            return over;
        }
    }

    /** One direction of a hop: its running digest and its cipher (ChaCha20, never at rest). */
    private static final class Lane {
        static final int BLOCK = 64;

        final Sha running = new Sha();
        /** Shared by all lanes, as a trial ends within one call. */
        final Sha trial;
        final int[] due = new int[KEY];
        final int[] input = new int[16];
        final int[] mixed = new int[16];
        final int[] block = new int[BLOCK];
        int used;

        Lane(Sha trial) {
            this.trial = trial;
        }

        void begin(int[] digestKey, int[] cipherKey) {
            running.start();
            running.add(digestKey, 0, KEY);
            Arrays.fill(input, 0);
            input[0] = 0x61707865;
            input[1] = 0x3320646e;
            input[2] = 0x79622d32;
            input[3] = 0x6b206574;
            for (int i = 0; i < KEY; i++) {
                input[4 + (i >>> 2)] |= cipherKey[i] << 8 * (i & 3);
            }
            used = BLOCK;
        }

        /** The cell comes with zeros for its digest. */
        void sign(int[] cell) {
            running.add(cell, AT_PAYLOAD, PAYLOAD);
            trial.copy(running);
            trial.end(due);
            System.arraycopy(due, 0, cell, AT_DIGEST, 4);
        }

        /** A cell that is recognized is left with zeros for its digest, any other one as it was. */
        boolean recognizes(int[] cell) {
            if (cell[AT_PAYLOAD + 1] != 0 || cell[AT_PAYLOAD + 2] != 0
                    || Outbox.pairAt(cell, AT_LENGTH) > MOST_DATA) {
                return false;
            }
            int digest = Outbox.pairAt(cell, AT_DIGEST) << 16 | Outbox.pairAt(cell, AT_DIGEST + 2);
            Arrays.fill(cell, AT_DIGEST, AT_DIGEST + 4, 0);
            trial.copy(running);
            trial.add(cell, AT_PAYLOAD, PAYLOAD);
            trial.end(due);
            if ((Outbox.pairAt(due, 0) << 16 | Outbox.pairAt(due, 2)) == digest) {
                running.add(cell, AT_PAYLOAD, PAYLOAD);
                return true;
            }
            Outbox.setPair(cell, AT_DIGEST, digest >>> 16);
            Outbox.setPair(cell, AT_DIGEST + 2, digest);
            return false;
        }

        void lay(int[] cell) {
            for (int i = AT_PAYLOAD; i < CELL; i++) {
                if (used >= BLOCK) {
                    nextBlock();
                }
                cell[i] ^= block[used];
                used++;
            }
        }

        private void nextBlock() {
            System.arraycopy(input, 0, mixed, 0, 16);
            for (int round = 0; round < 10; round++) {
                quarter(0, 4, 8, 12);
                quarter(1, 5, 9, 13);
                quarter(2, 6, 10, 14);
                quarter(3, 7, 11, 15);
                quarter(0, 5, 10, 15);
                quarter(1, 6, 11, 12);
                quarter(2, 7, 8, 13);
                quarter(3, 4, 9, 14);
            }
            for (int i = 0; i < BLOCK; i++) {
                int word = mixed[i >>> 2] + input[i >>> 2];
                block[i] = word >>> 8 * (i & 3) & 255;
            }
            input[12]++;
            used = 0;
        }

        private void quarter(int atA, int atB, int atC, int atD) {
            int a = mixed[atA] + mixed[atB];
            int d = mixed[atD] ^ a;
            d = d << 16 | d >>> 16;
            int c = mixed[atC] + d;
            int b = mixed[atB] ^ c;
            b = b << 12 | b >>> 20;
            a += b;
            d ^= a;
            d = d << 8 | d >>> 24;
            c += d;
            b ^= c;
            mixed[atA] = a;
            mixed[atB] = b << 7 | b >>> 25;
            mixed[atC] = c;
            mixed[atD] = d;
        }
    }

    /** What two nodes reckon to agree on keys. One serves all nodes, and its rows are used again. */
    private static final class Handshake {
        static final int DRAW = 1;
        static final int SECRET = 2;
        static final int TO_MARK = 3;
        static final int TO_PROVE = 4;
        static final int TO_KEYS = 5;
        static final int TO_SEAL = 6;
        static final int[] NAME = {'O', 'N', 'I', 'O', 'N', 'N', 'E', 'T'};

        /** Where the parts lie in the text that both sides hash. */
        static final int AT_SECOND = 32;
        static final int AT_OFFER = 64;
        static final int AT_KEY = 68;
        static final int AT_X = 100;
        static final int AT_Y = 132;
        static final int AT_NAME = 164;
        static final int TEXT = 172;

        final Sha sha = new Sha();
        final Sha trial = new Sha();
        final Curve curve = new Curve();
        final int[] base = new int[KEY];
        final int[] label = new int[9];
        final int[] text = new int[TEXT];
        final int[] pad = new int[Lane.BLOCK];
        final int[] inner = new int[KEY];
        final int[] proof = new int[KEY];
        final int[] master = new int[KEY];
        final int[] digestKey = new int[KEY];
        final int[] cipherKey = new int[KEY];
        final int[] small = new int[4];

        Handshake() {
            base[0] = 9;
            System.arraycopy(NAME, 0, label, 0, 8);
            System.arraycopy(NAME, 0, text, AT_NAME, 8);
        }

        void identify(Relay relay) {
            startLabelled(SECRET);
            sha.add(relay.node.seed, 0, 8);
            sha.end(relay.secret);
            curve.times(relay.secret, base, 0, relay.identity, MARK);
            startLabelled(TO_MARK);
            sha.add(relay.identity, MARK, KEY);
            sha.end(inner);
            System.arraycopy(inner, 0, relay.identity, 0, MARK);
        }

        void draw(Node node, int[] drawn) {
            label[8] = DRAW;
            sha.start();
            sha.add(label, 0, 9);
            sha.add(node.seed, 0, 8);
            small[0] = node.draws >>> 24;
            small[1] = node.draws >>> 16 & 255;
            small[2] = node.draws >>> 8 & 255;
            small[3] = node.draws & 255;
            sha.add(small, 0, 4);
            sha.end(drawn);
            node.draws++;
        }

        void hashTable(Relay[] relays, int[] result) {
            startLabelled(TO_SEAL);
            for (int i = 0; i < relays.length; i++) {
                Relay relay = relays[i];
                if (relay != null) {
                    small[0] = i;
                    Outbox.setPair(small, 1, relay.weight);
                    sha.add(small, 0, 3);
                    sha.add(relay.identity, 0, MARK + KEY);
                }
            }
            sha.end(result);
        }

        /** The relay's side: Y and its proof go into the answer's payload. */
        void answer(Relay relay, int[] cell, int[] answer) {
            draw(relay.node, relay.drawn);
            System.arraycopy(cell, AT_PAYLOAD, text, AT_OFFER, OFFER);
            curve.times(relay.drawn, base, 0, text, AT_Y);
            curve.times(relay.drawn, text, AT_X, text, 0);
            curve.times(relay.secret, text, AT_X, text, AT_SECOND);
            label[8] = TO_PROVE;
            hmac(label, text, TEXT, proof);
            System.arraycopy(text, AT_Y, answer, AT_PAYLOAD, KEY);
            System.arraycopy(proof, 0, answer, AT_PAYLOAD + KEY, KEY);
        }

        /** The side of the one who begins: MARK, KEY and X go into the circuit's offer. */
        void offer(Circuit circuit, Relay relay) {
            draw(circuit.client, circuit.drawn);
            System.arraycopy(relay.identity, 0, circuit.offer, 0, MARK + KEY);
            curve.times(circuit.drawn, base, 0, circuit.offer, MARK + KEY);
        }

        boolean isRight(Circuit circuit, int[] cell, int at) {
            System.arraycopy(circuit.offer, 0, text, AT_OFFER, OFFER);
            System.arraycopy(cell, at, text, AT_Y, KEY);
            curve.times(circuit.drawn, text, AT_Y, text, 0);
            curve.times(circuit.drawn, text, AT_KEY, text, AT_SECOND);
            label[8] = TO_PROVE;
            hmac(label, text, TEXT, proof);
            for (int i = 0; i < KEY; i++) {
                if (proof[i] != cell[at + KEY + i]) {
                    return false;
                }
            }
            return true;
        }

        /** The keys of the handshake that was reckoned last. */
        void share(Lane forward, Lane backward) {
            label[8] = TO_KEYS;
            hmac(label, text, TEXT, master);
            small[0] = 1;
            hmac(master, small, 1, digestKey);
            small[0] = 3;
            hmac(master, small, 1, cipherKey);
            forward.begin(digestKey, cipherKey);
            small[0] = 2;
            hmac(master, small, 1, digestKey);
            small[0] = 4;
            hmac(master, small, 1, cipherKey);
            backward.begin(digestKey, cipherKey);
        }

        private void startLabelled(int tag) {
            label[8] = tag;
            sha.start();
            sha.add(label, 0, 9);
        }

        private void hmac(int[] key, int[] message, int length, int[] result) {
            Arrays.fill(pad, 0x36);
            for (int i = 0; i < key.length && i < pad.length; i++) {
                pad[i] ^= key[i];
            }
            sha.start();
            sha.add(pad, 0, pad.length);
            sha.add(message, 0, length);
            sha.end(inner);
            for (int i = 0; i < pad.length; i++) {
                pad[i] ^= 0x36 ^ 0x5c;
            }
            sha.start();
            sha.add(pad, 0, pad.length);
            sha.add(inner, 0, KEY);
            sha.end(result);
        }
    }

    /** What relays and clients have in common: they draw, and they give numbers to circuits. */
    private static final class Node {
        final int number;
        final int[] seed = new int[8];
        int draws;
        int nextNumber;

        Node(int number, long seed, int firstNumber) {
            this.number = number;
            this.nextNumber = firstNumber;
            for (int i = 0; i < 8; i++) {
                this.seed[i] = (int) (seed >>> (56 - 8 * i)) & 255;
            }
        }
    }

    /** The cells on the way from one node to another, in a ring. */
    private static final class Link {
        static final int MOST = 8;

        final int[] cells = new int[MOST * CELL];
        int first;
        int count;

        void add(int[] cell) {
            if (count < MOST) {
                System.arraycopy(cell, 0, cells, (first + count) % MOST * CELL, CELL);
                count++;
            }
        }

        boolean takeFirst(int[] cell) {
            if (count == 0) {
                return false;
            }
            System.arraycopy(cells, first * CELL, cell, 0, CELL);
            first = (first + 1) % MOST;
            count--;
            return true;
        }

        void changeFirst(int at, int mask) {
            cells[first * CELL + at] ^= mask;
        }

        int byteOf(int k, int i) {
            if (k < 0 || k >= count || i < 0 || i >= CELL) {
                return NONE;
            }
            return cells[(first + k) % MOST * CELL + i];
        }
    }

    /** The cells that one node sends while it works on one call, and how numbers stand in them. */
    private static final class Outbox {
        /** No call makes a node send more than two. */
        static final int MOST = 4;

        final int[][] cells = new int[MOST][CELL];
        final int[] to = new int[MOST];
        final boolean[] plain = new boolean[MOST];
        int count;

        static int pairAt(int[] row, int at) {
            return row[at] << 8 | row[at + 1];
        }

        static void setPair(int[] row, int at, int value) {
            row[at] = value >>> 8 & 255;
            row[at + 1] = value & 255;
        }

        static int numberOf(int[] cell) {
            return pairAt(cell, 0) << 16 | pairAt(cell, 2);
        }

        void empty() {
            for (int i = 0; i < count; i++) {
                Arrays.fill(cells[i], 0);
                plain[i] = false;
            }
            count = 0;
        }

        int[] addCell(int node, int number, int command) {
            int at = count < MOST ? count : MOST - 1;
            int[] row = cells[at];
            row[0] = number >>> 24;
            row[1] = number >>> 16 & 255;
            row[2] = number >>> 8 & 255;
            row[3] = number & 255;
            row[AT_COMMAND] = command;
            to[at] = node;
            count = at + 1;
            return row;
        }

        void pass(int node, int number, int[] cell) {
            int[] row = addCell(node, number, RELAY);
            System.arraycopy(cell, AT_PAYLOAD, row, AT_PAYLOAD, PAYLOAD);
        }

        /** A cell whose payload is still to be signed and enciphered. */
        int[] addPlain(int node, int number, int command, int stream, int length) {
            int[] row = addCell(node, number, RELAY);
            row[AT_PAYLOAD] = command;
            setPair(row, AT_STREAM, stream);
            setPair(row, AT_LENGTH, length);
            plain[count - 1] = true;
            return row;
        }

        void sealAll(Lane lane) {
            for (int i = 0; i < count; i++) {
                if (plain[i]) {
                    lane.sign(cells[i]);
                    lane.lay(cells[i]);
                }
            }
        }
    }

    /** A circuit as a relay knows it. */
    private static final class Entry {
        final Lane forward;
        final Lane backward;
        final int[] streams = new int[MOST_STREAMS];
        final int[] services = new int[MOST_STREAMS];
        final int[] windows = new int[MOST_STREAMS];
        final int[] seen = new int[MOST_STREAMS];
        int streamCount;
        int fromNode;
        int fromNumber;
        int onNode;
        int onNumber;
        boolean used;
        boolean waits;

        Entry(Sha trial) {
            forward = new Lane(trial);
            backward = new Lane(trial);
        }

        void begin(int from, int number) {
            used = true;
            fromNode = from;
            fromNumber = number;
            onNode = NONE;
            waits = false;
            streamCount = 0;
        }

        int slotOf(int stream) {
            for (int i = 0; i < streamCount; i++) {
                if (streams[i] == stream) {
                    return i;
                }
            }
            return NONE;
        }

        boolean addStream(int stream, int service) {
            if (streamCount >= MOST_STREAMS) {
                return false;
            }
            streams[streamCount] = stream;
            services[streamCount] = service;
            windows[streamCount] = WINDOW;
            seen[streamCount] = 0;
            streamCount++;
            return true;
        }

        /** The last one takes its place, as nobody asks for their order. */
        void removeStream(int slot) {
            if (slot < 0 || slot >= streamCount) {
                return;
            }
            streamCount--;
            streams[slot] = streams[streamCount];
            services[slot] = services[streamCount];
            windows[slot] = windows[streamCount];
            seen[slot] = seen[streamCount];
        }
    }

    /** A relay, and what it does with cells. Its entries are made with it and used again. */
    private static final class Relay {
        static final int FIRST_NUMBER = 1000;
        static final int FIRST_WEIGHT = 10;
        static final int MOST_ENTRIES = 12;
        static final int ECHO = 1;
        static final int KEEP = 2;

        final Node node;
        final Relay[] others;
        final Handshake handshake;
        final int[] secret = new int[KEY];
        final int[] drawn = new int[KEY];
        final int[] identity = new int[MARK + KEY];
        final Entry[] entries = new Entry[MOST_ENTRIES];
        final int[] kept = new int[MOST_KEPT];
        int keptCount;
        int weight = FIRST_WEIGHT;

        Relay(Node node, Relay[] others, Handshake handshake) {
            this.node = node;
            this.others = others;
            this.handshake = handshake;
            for (int i = 0; i < MOST_ENTRIES; i++) {
                entries[i] = new Entry(handshake.trial);
            }
        }

        int entryCount() {
            int count = 0;
            for (Entry entry : entries) {
                count += entry.used ? 1 : 0;
            }
            return count;
        }

        int streamCount() {
            int count = 0;
            for (Entry entry : entries) {
                count += entry.used ? entry.streamCount : 0;
            }
            return count;
        }

        void takeCell(int from, int number, int[] cell, Outbox out) {
            Entry nearer = entryFrom(from, number);
            Entry farther = entryTo(from, number);
            switch (cell[AT_COMMAND]) {
                case CREATE:
                    create(from, number, cell, out);
                    break;
                case CREATED:
                    if (farther != null && farther.waits) {
                        sendExtended(farther, cell, out);
                    }
                    break;
                case RELAY:
                    if (nearer != null) {
                        takeForward(nearer, cell, out);
                    } else if (farther != null && !farther.waits) {
                        farther.backward.lay(cell);
                        out.pass(farther.fromNode, farther.fromNumber, cell);
                    }
                    break;
                case DESTROY:
                    if (nearer != null) {
                        destroyOn(nearer, out);
                    } else if (farther != null) {
                        destroyBack(farther, out);
                    }
                    break;
                default:
                    break;
            }
        }

        private Entry entryFrom(int from, int number) {
            for (Entry entry : entries) {
                if (entry.used && entry.fromNode == from && entry.fromNumber == number) {
                    return entry;
                }
            }
            return null;
        }

        private Entry entryTo(int to, int number) {
            for (Entry entry : entries) {
                if (entry.used && entry.onNode == to && entry.onNumber == number) {
                    return entry;
                }
            }
            return null;
        }

        private Entry freeEntry() {
            for (Entry entry : entries) {
                if (!entry.used) {
                    return entry;
                }
            }
            return null;
        }

        private boolean isMine(int[] cell) {
            for (int i = 0; i < MARK + KEY; i++) {
                if (cell[AT_PAYLOAD + i] != identity[i]) {
                    return false;
                }
            }
            return true;
        }

        private void create(int from, int number, int[] cell, Outbox out) {
            boolean allowed = entryFrom(from, number) == null && isMine(cell);
            Entry entry = allowed ? freeEntry() : null;
            if (entry == null) {
                out.addCell(from, number, DESTROY);
                return;
            }
            entry.begin(from, number);
            handshake.answer(this, cell, out.addCell(from, number, CREATED));
            handshake.share(entry.forward, entry.backward);
        }

        private void sendExtended(Entry entry, int[] cell, Outbox out) {
            entry.waits = false;
            int[] row = out.addPlain(entry.fromNode, entry.fromNumber, EXTENDED, 0, ANSWER);
            System.arraycopy(cell, AT_PAYLOAD, row, AT_DATA, ANSWER);
            out.sealAll(entry.backward);
        }

        private void takeForward(Entry entry, int[] cell, Outbox out) {
            entry.forward.lay(cell);
            if (entry.forward.recognizes(cell)) {
                if (doPayload(entry, cell, out)) {
                    out.sealAll(entry.backward);
                } else {
                    destroyBoth(entry, out);
                }
            } else if (entry.onNode == NONE || entry.waits) {
                destroyBoth(entry, out);
            } else {
                out.pass(entry.onNode, entry.onNumber, cell);
            }
        }

        private void destroyBack(Entry entry, Outbox out) {
            out.addCell(entry.fromNode, entry.fromNumber, DESTROY);
            entry.used = false;
        }

        private void destroyOn(Entry entry, Outbox out) {
            if (entry.onNode != NONE) {
                out.addCell(entry.onNode, entry.onNumber, DESTROY);
            }
            entry.used = false;
        }

        private void destroyBoth(Entry entry, Outbox out) {
            destroyBack(entry, out);
            destroyOn(entry, out);
        }

        /** False when the entry is to be destroyed. Answers are left plain, in their order. */
        private boolean doPayload(Entry entry, int[] cell, Outbox out) {
            int stream = Outbox.pairAt(cell, AT_STREAM);
            int slot = entry.slotOf(stream);
            switch (cell[AT_PAYLOAD]) {
                case EXTEND:
                    return extendEntry(entry, cell, out);
                case BEGIN:
                    return slot == NONE && beginStream(entry, stream, cell, out);
                case DATA:
                    if (slot != NONE) {
                        takeData(entry, slot, cell, out);
                    }
                    return true;
                case END:
                    entry.removeStream(slot);
                    return true;
                case SENDME:
                    if (slot != NONE) {
                        entry.windows[slot] += MORE_WINDOW;
                    }
                    return true;
                default:
                    return false;
            }
        }

        private boolean extendEntry(Entry entry, int[] cell, Outbox out) {
            int next = cell[AT_DATA];
            if (Outbox.pairAt(cell, AT_LENGTH) != 1 + OFFER || entry.onNode != NONE
                    || next == node.number || next < 0 || next >= others.length || others[next] == null) {
                return false;
            }
            entry.onNode = next;
            entry.onNumber = node.nextNumber;
            entry.waits = true;
            node.nextNumber++;
            int[] row = out.addCell(entry.onNode, entry.onNumber, CREATE);
            System.arraycopy(cell, AT_DATA + 1, row, AT_PAYLOAD, OFFER);
            return true;
        }

        private boolean beginStream(Entry entry, int stream, int[] cell, Outbox out) {
            if (Outbox.pairAt(cell, AT_LENGTH) != 1) {
                return false;
            }
            int service = cell[AT_DATA];
            boolean begun = (service == ECHO || service == KEEP) && entry.addStream(stream, service);
            out.addPlain(entry.fromNode, entry.fromNumber, begun ? CONNECTED : END, stream, 0);
            return true;
        }

        private void takeData(Entry entry, int slot, int[] cell, Outbox out) {
            int stream = entry.streams[slot];
            int length = Outbox.pairAt(cell, AT_LENGTH);
            entry.seen[slot]++;
            if (entry.seen[slot] % 2 == 0) {
                out.addPlain(entry.fromNode, entry.fromNumber, SENDME, stream, 0);
            }
            if (entry.services[slot] == KEEP) {
                keptCount = Stream.keep(kept, keptCount, cell, length);
            } else if (entry.windows[slot] > 0) {
                int[] row = out.addPlain(entry.fromNode, entry.fromNumber, DATA, stream, length);
                System.arraycopy(cell, AT_DATA, row, AT_DATA, length);
                entry.windows[slot]--;
            }
        }
    }

    /** A circuit as its client knows it, and what the client does with its cells. */
    private static final class Circuit {
        final Node client;
        final int number;
        final Relay[] path;
        final Handshake handshake;
        final Lane[] forward;
        final Lane[] backward;
        final Stream[] streams = new Stream[MOST_STREAMS];
        /** Of the handshake that is under way: what was drawn, and what was sent. */
        final int[] drawn = new int[KEY];
        final int[] offer = new int[OFFER];
        int phase = STARTED;
        int joined;
        int streamCount;

        Circuit(Node client, int number, Relay[] path, Handshake handshake) {
            this.client = client;
            this.number = number;
            this.path = path;
            this.handshake = handshake;
            forward = new Lane[path.length];
            backward = new Lane[path.length];
        }

        int firstRelay() {
            return path[0].node.number;
        }

        Stream streamOf(int stream) {
            return stream < 1 || stream > streamCount ? null : streams[stream - 1];
        }

        void begin(Outbox out) {
            handshake.offer(this, path[0]);
            int[] row = out.addCell(firstRelay(), number, CREATE);
            System.arraycopy(offer, 0, row, AT_PAYLOAD, OFFER);
        }

        int addStream(int port, Outbox out) {
            if (phase != OPEN || streamCount >= MOST_STREAMS) {
                return NONE;
            }
            streams[streamCount] = new Stream();
            streamCount++;
            toLast(out, BEGIN, streamCount, 1)[AT_DATA] = port;
            sealAll(out);
            return streamCount;
        }

        /** A plain cell for the last hop that there is. */
        int[] toLast(Outbox out, int command, int stream, int length) {
            return out.addPlain(firstRelay(), number, command, stream, length);
        }

        void sealAll(Outbox out) {
            for (int i = 0; i < out.count; i++) {
                if (out.plain[i] && joined > 0) {
                    forward[joined - 1].sign(out.cells[i]);
                    for (int hop = joined - 1; hop >= 0; hop--) {
                        forward[hop].lay(out.cells[i]);
                    }
                }
            }
        }

        /** The client destroys it. */
        void fall(Outbox out) {
            out.addCell(firstRelay(), number, DESTROY);
            endAll();
        }

        void takeCell(int[] cell, Outbox out) {
            switch (cell[AT_COMMAND]) {
                case CREATED:
                    if (joined == 0) {
                        join(cell, AT_PAYLOAD, out);
                    }
                    break;
                case RELAY:
                    if (joined == 0) {
                        break;
                    }
                    if (!peel(cell)) {
                        fall(out);
                    } else if (isExtended(cell)) {
                        join(cell, AT_DATA, out);
                    } else {
                        doPayload(cell, out);
                        sealAll(out);
                    }
                    break;
                case DESTROY:
                    endAll();
                    break;
                default:
                    break;
            }
        }

        private void endAll() {
            phase = GONE;
            for (int i = 0; i < streamCount; i++) {
                streams[i].phase = GONE;
            }
        }

        private void join(int[] cell, int at, Outbox out) {
            if (joined >= path.length || !handshake.isRight(this, cell, at)) {
                fall(out);
                return;
            }
            forward[joined] = new Lane(handshake.trial);
            backward[joined] = new Lane(handshake.trial);
            handshake.share(forward[joined], backward[joined]);
            joined++;
            if (joined == path.length) {
                phase = OPEN;
                return;
            }
            handshake.offer(this, path[joined]);
            int[] row = toLast(out, EXTEND, 0, 1 + OFFER);
            row[AT_DATA] = path[joined].node.number;
            System.arraycopy(offer, 0, row, AT_DATA + 1, OFFER);
            sealAll(out);
        }

        /** Whether the last hop that there is recognizes the cell, when the layers are off. */
        private boolean peel(int[] cell) {
            for (int hop = 0; hop < joined; hop++) {
                backward[hop].lay(cell);
                if (backward[hop].recognizes(cell)) {
                    return hop == joined - 1;
                }
            }
            return false;
        }

        private boolean isExtended(int[] cell) {
            return phase == STARTED && cell[AT_PAYLOAD] == EXTENDED
                    && Outbox.pairAt(cell, AT_LENGTH) == ANSWER;
        }

        private void doPayload(int[] cell, Outbox out) {
            int told = Outbox.pairAt(cell, AT_STREAM);
            Stream stream = streamOf(told);
            switch (cell[AT_PAYLOAD]) {
                case CONNECTED:
                    if (stream != null && stream.phase == STARTED) {
                        stream.phase = OPEN;
                    }
                    break;
                case DATA:
                    if (stream != null && stream.phase == OPEN) {
                        takeData(stream, told, cell, out);
                    }
                    break;
                case END:
                    if (stream != null) {
                        stream.phase = GONE;
                    }
                    break;
                case SENDME:
                    if (stream != null && stream.phase != GONE) {
                        stream.window += MORE_WINDOW;
                    }
                    break;
                default:
                    fall(out);
                    break;
            }
        }

        private void takeData(Stream stream, int told, int[] cell, Outbox out) {
            stream.seen++;
            if (stream.seen % 2 == 0) {
                toLast(out, SENDME, told, 0);
            }
            int length = Outbox.pairAt(cell, AT_LENGTH);
            stream.keptCount = Stream.keep(stream.kept, stream.keptCount, cell, length);
        }
    }

    /** A stream as its client knows it; the bytes that wait lie in a ring. */
    private static final class Stream {
        final int[] waiting = new int[MOST_WAITING];
        final int[] kept = new int[MOST_KEPT];
        int first;
        int waits;
        int keptCount;
        int phase = STARTED;
        int window = WINDOW;
        int seen;

        /** What is more than there is room for is left out; the answer is how many are kept then. */
        static int keep(int[] kept, int count, int[] cell, int length) {
            int more = Math.min(length, kept.length - count);
            System.arraycopy(cell, AT_DATA, kept, count, more);
            return count + more;
        }

        boolean queue(int b) {
            if (phase == GONE || waits >= MOST_WAITING) {
                return false;
            }
            waiting[(first + waits) % MOST_WAITING] = b;
            waits++;
            return true;
        }

        void unqueue(int[] cell, int count) {
            for (int i = 0; i < count && i < MOST_DATA; i++) {
                cell[AT_DATA + i] = waiting[(first + i) % MOST_WAITING];
            }
            first = (first + count) % MOST_WAITING;
            waits -= count;
        }
    }
}
