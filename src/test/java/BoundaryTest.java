/**
 * Each promise at its boundaries: the last value that is taken and the first one that is refused,
 * on each side. A refused call is held against the same run without it.
 */
public final class BoundaryTest extends Bench {
    /** Links that are not there with 3 relays and 1 client. */
    private static final int[][] NO_LINKS = {{0, 0}, {2, 2}, {8, 8}, {2, 3}, {3, 2}, {5, 0}, {0, 6}, {7, 0}, {8, 9},
        {9, 8}, {0, 9}, {10, 0}, {0, 10}, {-1, 0}, {0, -1}, {-1, 10}, {LOW, 0}, {0, LOW}, {HIGH, 0}, {0, HIGH}};

    public static void main(String[] args) throws ReflectiveOperationException {
        runAll(BoundaryTest.class);
    }

    private void refusedEach(String name, long... firsts) {
        for (long first : firsts) {
            refused(name, first, 0);
        }
    }

    /** With 3 relays and 1 client, of which none has sent a cell to another but 8 to 0. */
    private void refusedOnNoLinks(String name, long... rest) {
        for (int[] link : NO_LINKS) {
            long[] args = new long[2 + rest.length];
            args[0] = link[0];
            args[1] = link[1];
            System.arraycopy(rest, 0, args, 2, rest.length);
            refused(name, args);
        }
    }

    // ---- Promise 1

    /** Promise 1: "No nodes." */
    void promise01NoNodes() {
        for (int node = -1; node <= 10; node++) {
            is(NONE, "key", node, 0);
            is(NONE, "has", node, 0);
            for (int other = -1; other <= 10; other++) {
                is(NONE, "waiting", node, other);
            }
        }
    }

    /** Promise 1: "No nodes." So the first of each kind has the first number. */
    void promise01FirstNodes() {
        is(NONE, "path", 0, 0);
        is(0, "settle", 200);
        is(NONE, "circuit", 8, 0, NONE, NONE);
        is(NONE, "state", 0);
        is(0, "relay", 0);
        is(8, "client", 0);
        is(0, "circuit", 8, 0, NONE, NONE);
    }

    // ---- Promise 2

    /** Promise 2: "One more relay, with a weight of 10: its number." */
    void promise02WeightOfTen() {
        is(0, "relay", 1);
        is(0, "path", 10, 0);
        call("weigh", 0, 3);
        is(1, "relay", 2);
        due("the last of 3", 0, "path", 2, 0);
        due("the first of 10", 1, "path", 3, 0);
        due("the last of 10", 1, "path", 12, 0);
        due("round", 0, "path", 13, 0);
    }

    /** Promise 2: "NONE when there are 6." */
    void promise02SixRelays() {
        for (int i = 0; i < 6; i++) {
            is(i, "relay", i);
        }
        for (long seed : SEEDS) {
            refused("relay", seed);
        }
        is(NONE, "key", 6, 0);
        is(NONE, "waiting", 6, 0);
        is(8, "client", 1);
        refused("relay", 7);
    }

    /** Terms: "Each has a SEED (8 bytes)." The least and the greatest are taken as any other. */
    void promise02SeedsOfAnySize() {
        for (long seed : SEEDS) {
            anew();
            is(0, "relay", seed);
            is(8, "client", seed);
            byte[] want = Crypto.keyAndMark(seed);
            for (int i = 0; i < 36; i++) {
                is(want[i] & 255, "key", 0, i);
            }
            call("circuit", 8, 0, NONE, NONE);
            bytes(Crypto.curve(Crypto.draw(seed, 0), Crypto.base()), 8, 0, 0, 41);
            call("deliver", 8, 0);
            bytes(Crypto.curve(Crypto.draw(seed, 0), Crypto.base()), 0, 8, 0, 5);
            call("settle", 200);
            is(OPEN, "state", 0);
        }
    }

    // ---- Promise 3

    /** Promise 3: "One more client: its number, 8 or 9." */
    void promise03EightAndNine() {
        is(8, "client", 1);
        is(NONE, "waiting", 8, 9);
        is(9, "client", 1);
        is(0, "waiting", 8, 9);
        is(0, "waiting", 9, 8);
    }

    /** Promise 3: "NONE when there are 2." */
    void promise03TwoClients() {
        is(8, "client", 1);
        is(9, "client", 2);
        for (long seed : SEEDS) {
            refused("client", seed);
        }
        is(NONE, "waiting", 8, 10);
        is(0, "relay", 1);
        refused("client", 3);
        is(NONE, "circuit", 10, 0, NONE, NONE);
    }

    // ---- Promise 4

    /** Promise 4: "Byte i of a relay's KEY (0 .. 31), then of its MARK (32 .. 35)". */
    void promise04FirstAndLastBytes() {
        for (int relay = 0; relay < 6; relay++) {
            call("relay", SEEDS[relay]);
            byte[] want = Crypto.keyAndMark(SEEDS[relay]);
            for (int i : new int[] {0, 31, 32, 35}) {
                is(want[i] & 255, "key", relay, i);
            }
        }
    }

    /** Promise 4: "NONE when there is none such." */
    void promise04NoSuchByte() {
        nodes(2, 1);
        for (int relay = 0; relay < 2; relay++) {
            for (int i : new int[] {-1, 36, LOW, HIGH}) {
                refused("key", relay, i);
            }
        }
    }

    /** Promise 4: "NONE when there is none such." So it is of relays. */
    void promise04NoSuchRelay() {
        nodes(2, 1);
        refusedEach("key", -1, 2, 5, 6, 8, LOW, HIGH);
        anew();
        nodes(6, 2);
        is(Crypto.keyAndMark(6)[35] & 255, "key", 5, 35);
        refusedEach("key", -1, 6, 7, 8, 9, 10);
    }

    // ---- Promise 5

    /** Promise 5: "A relay's weight." The least and the greatest one. */
    void promise05LeastAndGreatest() {
        nodes(2, 0);
        is(1, "weigh", 0, 0);
        due("never drawn", 1, "path", 0, 0);
        is(1, "weigh", 0, 1000);
        due("the last of 1000", 0, "path", 999, 0);
        due("behind it", 1, "path", 1000, 0);
        is(1, "weigh", 1, 1000);
        due("the last of all", 1, "path", 1999, 0);
        due("round", 0, "path", 2000, 0);
        is(1, "weigh", 0, 1);
        due("the last of 1", 0, "path", 0, 0);
        due("behind it", 1, "path", 1, 0);
    }

    /** Promise 5: "False when there is none such". */
    void promise05NoSuchRelay() {
        nodes(2, 1);
        is(1, "weigh", 1, 5);
        for (int relay : new int[] {-1, 2, 5, 6, 8, LOW, HIGH}) {
            refused("weigh", relay, 7);
        }
        call("relay", 3);
        due("it has its 10", 2, "path", 10 + 5 + 9, 0);
        due("and no more", 0, "path", 10 + 5 + 10, 0);
    }

    /** Promise 5: "or w is not 0 .. 1000." */
    void promise05NoSuchWeight() {
        nodes(2, 0);
        for (int w : new int[] {-1, 1001, LOW, HIGH}) {
            refused("weigh", 0, w);
            refused("weigh", 1, w);
        }
        due("the weight stays", 0, "path", 9, 0);
        due("the weight stays", 1, "path", 10, 0);
    }

    // ---- Promise 6

    private void weights(int... weights) {
        anew();
        nodes(weights.length, 0);
        for (int i = 0; i < weights.length; i++) {
            is(1, "weigh", i, weights[i]);
        }
    }

    /** Promise 6: "Relay k (0 .. 2) of the path for a word". */
    void promise06FirstAndLastPlace() {
        nodes(4, 0);
        is(0, "path", 0, 0);
        is(1, "path", 0, 1);
        is(2, "path", 0, 2);
    }

    /** Promise 6: "relays 0, 1, .. are drawn without putting back". */
    void promise06WithoutPuttingBack() {
        nodes(3, 0);
        long lastOfAll = 29L | 19L << 20 | 9L << 40;
        is(2, "path", lastOfAll, 0);
        is(1, "path", lastOfAll, 1);
        is(0, "path", lastOfAll, 2);
        long middle = 10L | 9L << 20;
        is(1, "path", middle, 0);
        is(0, "path", middle, 1);
        is(2, "path", middle, 2);
        is(2, "path", 10L | 10L << 20, 1);
    }

    /**
     * Promise 6: "T the sum of the weights of those that are left, n = the 20 bits of word from bit
     * 20 * k on modulo T".
     */
    void promise06TwentyBits() {
        weights(1, 1, 1, 2);
        due("bit 0", 1, "path", 1L, 0);
        due("bit 19, which is 3 modulo 5", 3, "path", 1L << 19, 0);
        due("bit 20 is the next one's", 0, "path", 1L << 20, 0);
        due("bit 63", 0, "path", Long.MIN_VALUE, 0);
        due("bit 39 is another's", 2, "path", 1L << 39, 2);
        due("bit 40", 3, "path", 1L << 40, 2);
        due("bit 59, which is 2 modulo 3", 3, "path", 1L << 59, 2);
        due("bit 60 is nobody's", 2, "path", 1L << 60, 2);
        due("bit 63 is nobody's", 2, "path", Long.MIN_VALUE, 2);
        is(1, "weigh", 3, 1);
        due("bit 19 is another's", 1, "path", 1L << 19, 1);
        due("bit 20", 2, "path", 1L << 20, 1);
        due("bit 39, which is 2 modulo 3", 3, "path", 1L << 39, 1);
        due("bit 40 is the next one's", 1, "path", 1L << 40, 1);
        due("all twenty bits", 0xFFFFF % 4, "path", -1L, 0);
    }

    /** Promise 6: "the first one with which the sum of weights of those that are left, up to it, is above n." */
    void promise06FirstAboveN() {
        weights(5, 0, 7);
        due("the last below the first sum", 0, "path", 4, 0);
        due("the sum itself, past a weight of 0", 2, "path", 5, 0);
        due("the last below T", 2, "path", 11, 0);
        due("T itself is 0", 0, "path", 12, 0);
        due("the last of the twenty bits", 0xFFFFF % 12 < 5 ? 0 : 2, "path", 0xFFFFF, 0);
        weights(0, 5, 7);
        due("a weight of 0 is not above 0", 1, "path", 0, 0);
        weights(1000, 1000, 1000, 1000, 1000, 1000);
        due("the last of the greatest T", 5, "path", 5999, 0);
        due("the greatest T", 0, "path", 6000, 0);
    }

    /** Promise 6: "NONE when T is 0 at it or before". */
    void promise06NothingLeft() {
        refused("path", 0, 0);
        weights(1);
        is(0, "path", -1, 0);
        due("at it", NONE, "path", 0, 1);
        due("before it", NONE, "path", 0, 2);
        weights(0, 0, 0);
        refused("path", 0, 0);
        refused("path", 0, 1);
        refused("path", 0, 2);
        weights(10, 0, 1);
        is(2, "path", 0, 1);
        refused("path", 0, 2);
        is(1, "weigh", 1, 1);
        due("the third one is left", 2, "path", 0, 2);
    }

    /** Promise 6: "or for other k." */
    void promise06OtherPlaces() {
        nodes(6, 0);
        for (int k : new int[] {-1, 3, 4, LOW, HIGH}) {
            refused("path", 0, k);
            refused("path", Long.MIN_VALUE, k);
        }
    }

    // ---- Promise 7

    private void sealed(int... weights) {
        weights(weights);
        byte[] want = Crypto.seal(weights);
        for (int i = 0; i < 32; i++) {
            is(want[i] & 255, "seal", i);
        }
    }

    /**
     * Promise 7: "Byte i of the SEAL of the table: SHA ( NAME | 6 | of each relay its number (1), its
     * weight (2), MARK, KEY )." With no relay, with six, and with weights at the edges of their bytes.
     */
    void promise07Tables() {
        sealed();
        sealed(10);
        sealed(0, 255, 256, 511, 512, 1000);
    }

    /** Promise 7: "NONE when i is not 0 .. 31." */
    void promise07NoSuchByte() {
        refusedEach("seal", -1, 32, LOW, HIGH);
        nodes(6, 2);
        byte[] want = Crypto.seal(10, 10, 10, 10, 10, 10);
        is(want[0] & 255, "seal", 0);
        is(want[31] & 255, "seal", 31);
        refusedEach("seal", -1, 32, LOW, HIGH);
    }

    // ---- Promise 8

    /**
     * Promise 8: "A client begins a circuit over relays a, b, c (b or c NONE, which is -1: over fewer):
     * its number, 0, 1, .. of all."
     */
    void promise08OneToThree() {
        nodes(3, 2);
        is(0, "circuit", 9, 2, NONE, NONE);
        is(1, "circuit", 8, 2, 1, NONE);
        is(2, "circuit", 9, 2, 1, 0);
        call("settle", 200);
        for (int circuit = 0; circuit < 3; circuit++) {
            is(OPEN, "state", circuit);
            is(circuit + 1, "hops", circuit);
        }
        is(3, "circuit", 8, 0, NONE, NONE);
    }

    /** Promise 8: "NONE when there is no such client". */
    void promise08NoSuchClient() {
        nodes(2, 0);
        refused("circuit", 8, 0, NONE, NONE);
        call("client", 101);
        for (int client : new int[] {-1, 0, 7, 9, 10, LOW, HIGH}) {
            refused("circuit", client, 0, 1, NONE);
        }
        is(0, "circuit", 8, 0, 1, NONE);
        call("client", 102);
        is(1, "circuit", 9, 0, 1, NONE);
        refused("circuit", 10, 0, 1, NONE);
    }

    /** Promise 8: "or relay". */
    void promise08NoSuchRelay() {
        nodes(3, 1);
        for (int relay : new int[] {-2, 3, 5, 6, 8, LOW, HIGH}) {
            refused("circuit", 8, relay, NONE, NONE);
            refused("circuit", 8, 0, relay, NONE);
            refused("circuit", 8, 0, relay, 1);
            refused("circuit", 8, 0, 1, relay);
        }
        due("NONE is no first relay", NONE, "circuit", 8, NONE, NONE, NONE);
        refused("circuit", 8, NONE, 1, NONE);
        refused("circuit", 8, NONE, 0, 1);
        is(0, "circuit", 8, 2, 0, 1);
        is(1, "circuit", 8, 0, 2, NONE);
        is(2, "circuit", 8, 0, 1, 2);
    }

    /** Promise 8: "or two are the same". */
    void promise08TwoTheSame() {
        nodes(3, 1);
        refused("circuit", 8, 0, 0, NONE);
        refused("circuit", 8, 2, 2, NONE);
        refused("circuit", 8, 0, 0, 1);
        refused("circuit", 8, 0, 1, 0);
        refused("circuit", 8, 1, 0, 0);
        refused("circuit", 8, 1, 1, 1);
        is(0, "circuit", 8, 0, 1, 2);
    }

    /** Promise 8: "or c is told without b". */
    void promise08ThirdWithoutSecond() {
        nodes(3, 1);
        refused("circuit", 8, 0, NONE, 1);
        refused("circuit", 8, 0, NONE, 0);
        refused("circuit", 8, 0, NONE, -2);
        is(0, "circuit", 8, 0, 1, NONE);
        is(1, "circuit", 8, 0, NONE, NONE);
    }

    /** Promise 8: "or there were 6." */
    void promise08SixInAll() {
        nodes(3, 2);
        for (int i = 0; i < 6; i++) {
            is(i, "circuit", 8 + i % 2, i % 3, (i + 1) % 3, NONE);
        }
        refused("circuit", 8, 0, NONE, NONE);
        refused("circuit", 9, 1, 0, NONE);
        is(NONE, "state", 6);
    }

    /** Terms: "A CIRCUIT of a client (at most 6 in all, those that are GONE too) goes over 1 to 3 different relays". */
    void promise08SixWithThoseThatAreGone() {
        nodes(2, 1);
        for (int i = 0; i < 6; i++) {
            is(i, "circuit", 8, 0, 1, NONE);
            is(1, "destroy", i);
            call("settle", 200);
        }
        refused("circuit", 8, 0, NONE, NONE);
        is(0, "has", 0, 0);
    }

    // ---- Promise 9

    /** Promise 9: "A new stream of an OPEN circuit: BEGIN with the port goes to its last hop: its number." */
    void promise09LeastAndGreatestPort() {
        int[] ports = {0, 1, 254, 255};
        open(1);
        for (int i = 0; i < 4; i++) {
            is(i + 1, "stream", 0, ports[i]);
            for (int at = 0; at < 27; at++) {
                call("look", 8, 0, 0, at);
            }
            byte[] payload = twin.bare(8, 0, twin.layers(8, 0, 0));
            DUE.is("its command", payload[0], BEGIN);
            DUE.is("its stream", payload[4], i + 1);
            DUE.is("its length", Model.length(payload), 1);
            DUE.is("its port", payload[11] & 255, ports[i]);
            call("settle", 200);
            is(ports[i] == 1 ? OPEN : GONE, "told", 0, i + 1, 0);
        }
    }

    /** Promise 9: "NONE when there is no such circuit". */
    void promise09NoSuchCircuit() {
        open(2);
        refusedEach("stream", -1, 1, 5, 6, LOW, HIGH);
        is(1, "stream", 0, ECHO);
    }

    /** Promise 9: "or it is not OPEN". */
    void promise09NotOpen() {
        building(2);
        refused("stream", 0, ECHO);
        is(5, "settle", 5);
        due("one cell is missing", BUILDING, "state", 0);
        refused("stream", 0, ECHO);
        is(1, "settle", 1);
        is(1, "stream", 0, ECHO);
        is(1, "destroy", 0);
        refused("stream", 0, ECHO);
    }

    /** Promise 9: "or has had 4". */
    void promise09HasHadFour() {
        open(1);
        for (int i = 1; i <= 4; i++) {
            is(i, "stream", 0, i == 2 ? 0 : ECHO);
        }
        refused("stream", 0, ECHO);
        call("settle", 200);
        due("refused by the relay", GONE, "told", 0, 2, 0);
        is(1, "close", 0, 1);
        call("settle", 200);
        due("those that are gone count", 2, "has", 0, 1);
        refused("stream", 0, ECHO);
        is(NONE, "told", 0, 5, 0);
    }

    /** Promise 9: "or port is not 0 .. 255." */
    void promise09NoSuchPort() {
        open(1);
        for (int port : new int[] {-1, 256, 257, LOW, HIGH}) {
            refused("stream", 0, port);
        }
        due("none had a number", 1, "stream", 0, 255);
    }

    // ---- Promise 10

    /** Promise 10: "A byte more (the lowest eight bits of b) waits to be sent." */
    void promise10LowestEightBits() {
        streaming(1, KEEP);
        int[] given = {0, 255, 256, -1, -256, LOW, HIGH};
        int[] want = {0, 255, 0, 255, 0, 0, 255};
        for (int i = 0; i < given.length; i++) {
            is(1, "put", 0, 1, given[i]);
            is(i + 1, "told", 0, 1, 2);
        }
        is(7, "push", 0, 1);
        call("settle", 200);
        for (int i = 0; i < given.length; i++) {
            is(want[i], "kept", 0, i);
        }
    }

    /** The calls that take a stream, on streams that are not there; only stream 1 of circuit 0 is. */
    private void refusedWithoutStream(String name) {
        for (int stream : new int[] {-1, 0, 2, 4, 5, LOW, HIGH}) {
            refused(name, 0, stream, 0);
        }
        for (int circuit : new int[] {-1, 1, 5, 6, LOW, HIGH}) {
            refused(name, circuit, 1, 0);
        }
    }

    /** Promise 10: "False when there is no such stream". */
    void promise10NoSuchStream() {
        streaming(1, ECHO);
        refusedWithoutStream("put");
        is(0, "told", 0, 1, 2);
        is(2, "stream", 0, ECHO);
        due("a new one takes bytes at once", 1, "put", 0, 2, 9);
        is(1, "told", 0, 2, 2);
        is(0, "told", 0, 1, 2);
    }

    /** Promise 10: "or it is GONE". */
    void promise10Gone() {
        streaming(1, ECHO);
        is(1, "put", 0, 1, 1);
        is(1, "close", 0, 1);
        refused("put", 0, 1, 2);
        is(2, "stream", 0, 9);
        is(1, "put", 0, 2, 1);
        call("settle", 200);
        due("the relay has ended it", GONE, "told", 0, 2, 0);
        refused("put", 0, 2, 2);
        is(3, "stream", 0, ECHO);
        is(1, "put", 0, 3, 1);
        is(1, "destroy", 0);
        refused("put", 0, 3, 2);
        due("as it was then", 1, "told", 0, 3, 2);
    }

    /** Promise 10: "or 400 wait." */
    void promise10FourHundredWait() {
        streaming(1, ECHO);
        for (int i = 0; i < 400; i++) {
            is(1, "put", 0, 1, i);
        }
        is(400, "told", 0, 1, 2);
        refused("put", 0, 1, 1);
        refused("put", 0, 1, LOW);
        is(124, "push", 0, 1);
        due("there is room again", 1, "put", 0, 1, 1);
    }

    // ---- Promise 11

    private void puts(int count, int first) {
        for (int i = 0; i < count; i++) {
            is(1, "put", 0, 1, first + i);
        }
    }

    /**
     * Promise 11: "Sends DATA with what waits (124 bytes at most, those that came first), and the window
     * is one less: how many".
     */
    void promise11OneHundredAndTwentyFour() {
        streaming(1, KEEP);
        puts(123, 0);
        is(123, "push", 0, 1);
        is(0, "told", 0, 1, 2);
        puts(124, 0);
        is(124, "push", 0, 1);
        is(0, "told", 0, 1, 2);
        puts(125, 0);
        is(124, "push", 0, 1);
        due("the last of them is left", 1, "told", 0, 1, 2);
        due("three are sent", 1, "told", 0, 1, 1);
        is(1, "push", 0, 1);
        is(0, "told", 0, 1, 1);
        call("settle", 200);
        is(372, "has", 0, 2);
        int[] starts = {0, 123, 247, 371};
        int[] bytes = {0, 0, 0, 124};
        for (int i = 0; i < 4; i++) {
            is(bytes[i], "kept", 0, starts[i]);
        }
        is(123, "kept", 0, 370);
    }

    /** Promise 11: "124 bytes at most, those that came first". The 401st byte and those behind it lie round the end. */
    void promise11FirstComeFirst() {
        streaming(1, ECHO);
        puts(400, 0);
        is(124, "push", 0, 1);
        puts(10, 400);
        is(286, "told", 0, 1, 2);
        is(124, "push", 0, 1);
        is(124, "push", 0, 1);
        is(38, "push", 0, 1);
        is(0, "told", 0, 1, 2);
        call("settle", 200);
        is(410, "told", 0, 1, 3);
        for (int i : new int[] {0, 123, 124, 247, 248, 371, 372, 399, 400, 409}) {
            is(i & 255, "got", 0, 1, i);
        }
    }

    /** Promise 11: "0, sending nothing, when none wait". */
    void promise11NoneWait() {
        streaming(1, ECHO);
        refusedBy(0, "push", 0, 1);
        is(4, "told", 0, 1, 1);
        pushes(0, 1, 1);
        refusedBy(0, "push", 0, 1);
        is(3, "told", 0, 1, 1);
    }

    /** Promise 11: "or the stream is not OPEN". */
    void promise11NotOpen() {
        open(1);
        is(1, "stream", 0, ECHO);
        is(1, "put", 0, 1, 1);
        refusedBy(0, "push", 0, 1);
        call("deliver", 8, 0);
        refusedBy(0, "push", 0, 1);
        call("deliver", 0, 8);
        due("CONNECTED has come", 1, "push", 0, 1);
        is(1, "put", 0, 1, 2);
        is(1, "close", 0, 1);
        refusedBy(0, "push", 0, 1);
        is(2, "stream", 0, ECHO);
        is(1, "put", 0, 2, 1);
        is(1, "destroy", 0);
        refusedBy(0, "push", 0, 2);
    }

    /** Promise 11: "or its window 0." */
    void promise11WindowOfZero() {
        streaming(1, KEEP);
        pushes(0, 1, 3);
        due("a window of 1 is enough", 1, "told", 0, 1, 1);
        pushes(0, 1, 1);
        is(0, "told", 0, 1, 1);
        is(1, "put", 0, 1, 5);
        refusedBy(0, "push", 0, 1);
        delivers(8, 0, 1);
        due("the first DATA has no SENDME", 0, "waiting", 0, 8);
        delivers(8, 0, 1);
        delivers(0, 8, 1);
        due("2 more than 0", 2, "told", 0, 1, 1);
        is(1, "push", 0, 1);
        pushes(0, 1, 1);
        is(1, "put", 0, 1, 6);
        refusedBy(0, "push", 0, 1);
    }

    /** Promise 11: "NONE when there is no such stream." */
    void promise11NoSuchStream() {
        streaming(1, ECHO);
        call("put", 0, 1, 1);
        refusedWithoutStream("push");
        is(1, "push", 0, 1);
    }

    // ---- Promise 12

    /** Promise 12: "Sends END, and the stream is GONE." So does one that still waits. */
    void promise12WaitingAndOpen() {
        streaming(2, ECHO);
        is(1, "close", 0, 1);
        is(GONE, "told", 0, 1, 0);
        is(1, "waiting", 8, 0);
        is(2, "settle", 200);
        is(0, "has", 1, 1);
        is(2, "stream", 0, ECHO);
        is(1, "close", 0, 2);
        is(GONE, "told", 0, 2, 0);
        is(2, "waiting", 8, 0);
        call("settle", 200);
        is(0, "has", 1, 1);
        is(OPEN, "state", 0);
    }

    /** Promise 12: "False when there is no such stream". */
    void promise12NoSuchStream() {
        streaming(1, ECHO);
        refusedWithoutStream("close");
        is(1, "close", 0, 1);
    }

    /** Promise 12: "or it is GONE." */
    void promise12Gone() {
        streaming(1, ECHO);
        is(1, "close", 0, 1);
        refused("close", 0, 1);
        is(2, "stream", 0, 0);
        call("settle", 200);
        due("the relay has ended it", GONE, "told", 0, 2, 0);
        refused("close", 0, 2);
        is(3, "stream", 0, ECHO);
        is(1, "destroy", 0);
        refused("close", 0, 3);
    }

    // ---- Promise 13

    /** Promise 13: "The client DESTROYS a circuit." One that is building, too. */
    void promise13BuildingAndOpen() {
        building(2);
        is(1, "destroy", 0);
        is(GONE, "state", 0);
        is(2, "waiting", 8, 0);
        is(DESTROY, "look", 8, 0, 1, 4);
        open(1);
        is(1, "destroy", 0);
        is(GONE, "state", 0);
        bytes(new byte[] {0, 0, 0, 1, DESTROY, 0, 0}, 8, 0, 0, 0);
        is(0, "look", 8, 0, 0, 139);
    }

    /** Promise 13: "False when there is none such". */
    void promise13NoSuchCircuit() {
        refused("destroy", 0);
        open(1);
        refusedEach("destroy", -1, 1, 5, 6, LOW, HIGH);
        for (int i = 1; i < 6; i++) {
            is(i, "circuit", 8, 0, NONE, NONE);
        }
        refusedEach("destroy", -1, 6, 7);
        is(1, "destroy", 5);
    }

    /** Promise 13: "or it is GONE." */
    void promise13Gone() {
        open(1);
        is(1, "destroy", 0);
        refused("destroy", 0);
        call("settle", 200);
        refused("destroy", 0);
        is(1, "circuit", 8, 0, NONE, NONE);
        call("alter", 8, 0, 5, 1);
        delivers(8, 0, 1);
        is(DESTROY, "deliver", 0, 8);
        due("by a relay's DESTROY", GONE, "state", 1);
        refused("destroy", 1);
        is(2, "circuit", 8, 0, NONE, NONE);
        delivers(8, 0, 1);
        call("alter", 0, 8, 5, 1);
        is(CREATED, "deliver", 0, 8);
        due("by an answer that is not right", GONE, "state", 2);
        refused("destroy", 2);
    }

    // ---- Promise 14

    /**
     * Promise 14: "The first cell of a link is handed over: its command, as the byte stands there
     * (0 .. 255)."
     */
    void promise14LeastAndGreatestCommand() {
        nodes(2, 1);
        int[] commands = {0, 255, 1, 128, CREATE};
        for (int i = 0; i < commands.length; i++) {
            is(i, "circuit", 8, 0, NONE, NONE);
            if (commands[i] != CREATE) {
                is(1, "alter", 8, 0, 4, CREATE ^ commands[i]);
            }
            is(commands[i], "look", 8, 0, 0, 4);
            is(commands[i], "deliver", 8, 0);
            is(0, "waiting", 8, 0);
            due("others are left out", commands[i] == CREATE ? 1 : 0, "waiting", 0, 8);
        }
    }

    /** Promise 14: "NONE when there is none". */
    void promise14NoCell() {
        building(1);
        refused("deliver", 0, 8);
        refused("deliver", 8, 1);
        refused("deliver", 1, 2);
        is(CREATE, "deliver", 8, 0);
        refused("deliver", 8, 0);
        is(CREATED, "deliver", 0, 8);
        refused("deliver", 0, 8);
    }

    /** Promise 14: "or no such link." */
    void promise14NoLink() {
        building(1);
        refusedOnNoLinks("deliver");
        is(CREATE, "deliver", 8, 0);
    }

    // ---- Promise 15

    /** Promise 15: "The first cell of a link is lost." */
    void promise15FirstCell() {
        building(1);
        is(1, "circuit", 8, 0, NONE, NONE);
        is(1, "drop", 8, 0);
        is(1, "waiting", 8, 0);
        due("the second one stays", 2, "look", 8, 0, 0, 3);
        is(1, "drop", 8, 0);
        is(0, "waiting", 8, 0);
        is(0, "has", 0, 0);
        is(BUILDING, "state", 0);
    }

    /** Promise 15: "False when there is none." */
    void promise15NoCell() {
        building(1);
        refused("drop", 0, 8);
        refused("drop", 8, 1);
        refusedOnNoLinks("drop");
        is(1, "drop", 8, 0);
        refused("drop", 8, 0);
    }

    // ---- Promise 16

    /** Promise 16: "A byte of the first cell of a link is changed by ^ mask." */
    void promise16LeastAndGreatest() {
        building(1);
        is(1, "circuit", 8, 0, NONE, NONE);
        for (int at : new int[] {0, 1, 138, 139}) {
            for (int mask : new int[] {1, 255}) {
                is(1, "alter", 8, 0, at, mask);
                is(mask, "look", 8, 0, 0, at);
                due("the second cell is not changed", 0, "look", 8, 0, 1, at);
                is(1, "alter", 8, 0, at, mask);
                due("and back", 0, "look", 8, 0, 0, at);
            }
        }
        is(1, "alter", 8, 0, 4, 128);
        is(CREATE ^ 128, "look", 8, 0, 0, 4);
    }

    /** Promise 16: "False when there is none". */
    void promise16NoCell() {
        building(1);
        refused("alter", 0, 8, 0, 1);
        refused("alter", 8, 1, 0, 1);
        refusedOnNoLinks("alter", 0, 1);
        delivers(8, 0, 1);
        refused("alter", 8, 0, 0, 1);
        is(1, "alter", 0, 8, 0, 1);
    }

    /** Promise 16: "or at is not 0 .. 139". */
    void promise16NoSuchByte() {
        building(1);
        for (int at : new int[] {-1, 140, 141, LOW, HIGH}) {
            refused("alter", 8, 0, at, 1);
            refused("alter", 8, 0, at, 255);
        }
    }

    /** Promise 16: "or mask not 1 .. 255." */
    void promise16NoSuchMask() {
        building(1);
        for (int mask : new int[] {0, -1, 256, 257, LOW, HIGH}) {
            refused("alter", 8, 0, 0, mask);
            refused("alter", 8, 0, 139, mask);
        }
    }

    // ---- Promise 17

    /** Six CREATE and so many DESTROY, as far as they find room. */
    private void crowd(int destroys) {
        anew();
        nodes(3, 1);
        for (int i = 0; i < 6; i++) {
            is(i, "circuit", 8, 0, NONE, NONE);
        }
        for (int i = 0; i < destroys; i++) {
            is(1, "destroy", i);
        }
    }

    /** Promise 17: "How many cells lie on a link". */
    void promise17NoneToEight() {
        nodes(3, 1);
        is(0, "waiting", 8, 0);
        is(0, "waiting", 2, 1);
        call("circuit", 8, 0, NONE, NONE);
        is(1, "waiting", 8, 0);
        crowd(1);
        is(7, "waiting", 8, 0);
        is(1, "destroy", 1);
        is(8, "waiting", 8, 0);
        is(1, "destroy", 2);
        due("the ninth has no room", 8, "waiting", 8, 0);
        is(1, "drop", 8, 0);
        is(7, "waiting", 8, 0);
        is(1, "destroy", 3);
        due("there is room again", 8, "waiting", 8, 0);
    }

    /** Promise 17: "NONE when there is none such." */
    void promise17NoLink() {
        building(1);
        refusedOnNoLinks("waiting");
        anew();
        nodes(6, 2);
        for (int from = -1; from <= 10; from++) {
            for (int to = -1; to <= 10; to++) {
                boolean there = from != to && from >= 0 && to >= 0 && from < 10 && to < 10
                        && (from < 6 || from > 7) && (to < 6 || to > 7);
                is(there ? 0 : NONE, "waiting", from, to);
            }
        }
    }

    // ---- Promise 18

    /** Promise 18: "Byte i of the k-th cell on a link". */
    void promise18FirstToEighth() {
        crowd(2);
        for (int k = 0; k < 8; k++) {
            is(0, "look", 8, 0, k, 0);
            is(k < 6 ? k + 1 : k - 5, "look", 8, 0, k, 3);
            is(k < 6 ? CREATE : DESTROY, "look", 8, 0, k, 4);
            is(0, "look", 8, 0, k, 139);
        }
        is(1, "alter", 8, 0, 139, 77);
        is(77, "look", 8, 0, 0, 139);
    }

    /** Promise 18: "Byte i of the k-th cell on a link". The row holds more than eight cells one after another. */
    void promise18RoundTheEnd() {
        crowd(2);
        for (int i = 2; i < 6; i++) {
            is(1, "drop", 8, 0);
            is(1, "drop", 8, 0);
            is(1, "destroy", i);
            is(9 - i, "waiting", 8, 0);
            due("the last one", i + 1, "look", 8, 0, 8 - i, 3);
            due("the last one", DESTROY, "look", 8, 0, 8 - i, 4);
            is(NONE, "look", 8, 0, 9 - i, 3);
        }
        for (int i = 2; i < 6; i++) {
            due("in order", i + 1, "look", 8, 0, i - 2, 3);
        }
    }

    /** Promise 18: "NONE when there is none such." */
    void promise18NoSuchByte() {
        building(1);
        for (int k : new int[] {-1, 1, 7, 8, LOW, HIGH}) {
            refused("look", 8, 0, k, 0);
            refused("look", 8, 0, k, 139);
        }
        for (int i : new int[] {-1, 140, LOW, HIGH}) {
            refused("look", 8, 0, 0, i);
        }
        refused("look", 0, 8, 0, 0);
        refusedOnNoLinks("look", 0, 0);
        crowd(3);
        refused("look", 8, 0, 8, 0);
        refused("look", 8, 0, 7, 140);
        refused("look", 8, 0, -1, 139);
    }

    // ---- Promise 19

    /** Six circuits that share no link, each with four streams to ECHO, on each of which DATA is sent twice. */
    private void storm() {
        int[][] paths = {{0, 1, 2}, {1, 3, 0}, {2, 4, 0}, {3, 2, 5}, {4, 5, 3}, {5, 0, 2}};
        nodes(6, 1);
        for (int[] path : paths) {
            call("circuit", 8, path[0], path[1], path[2]);
        }
        is(6 * 12, "settle", 200);
        for (int i = 0; i < 24; i++) {
            is(i / 6 + 1, "stream", i % 6, ECHO);
        }
        is(24 * 6, "settle", 200);
        for (int i = 0; i < 24; i++) {
            pushes(i % 6, i / 6 + 1, 2);
        }
    }

    /**
     * Promise 19: "Goes round and round over all links (by from, then by to, relays before clients),
     * handing over the first cell of each that has one, until none has, or n cells were handed over: how
     * many were."
     */
    void promise19TwoHundredAndNoMore() {
        storm();
        int all = 48 * 6 + 24 * 3 + 24 * 3;
        is(200, "settle", 200);
        is(200, "settle", 200);
        due("until none has", all - 400, "settle", 200);
        due("none is left", 0, "settle", 200);
        for (int circuit = 0; circuit < 6; circuit++) {
            is(OPEN, "state", circuit);
            is(2, "told", circuit, 4, 3);
        }
    }

    /** Promise 19: "or n cells were handed over: how many were." The least n, and one that is just enough. */
    void promise19OneAndJustEnough() {
        building(3);
        is(1, "settle", 1);
        is(1, "waiting", 0, 8);
        is(1, "settle", 1);
        is(1, "hops", 0);
        is(9, "settle", 9);
        due("one is left", BUILDING, "state", 0);
        is(1, "settle", 200);
        is(OPEN, "state", 0);
        building(3);
        is(11, "settle", 11);
        is(BUILDING, "state", 0);
        building(3);
        is(12, "settle", 12);
        is(OPEN, "state", 0);
        building(3);
        is(12, "settle", 13);
    }

    /** Promise 19: "(by from, then by to, relays before clients)". */
    void promise19Order() {
        nodes(2, 2);
        call("circuit", 9, 0, NONE, NONE);
        call("circuit", 8, 1, NONE, NONE);
        call("circuit", 8, 0, NONE, NONE);
        call("circuit", 8, 0, NONE, NONE);
        is(3, "settle", 3);
        due("from 8 to 0 one of two", 1, "waiting", 8, 0);
        due("from 8 to 1", 0, "waiting", 8, 1);
        due("from 9 to 0", 0, "waiting", 9, 0);
        is(1, "settle", 1);
        due("from 0 to 8 before from 0 to 9", OPEN, "state", 2);
        is(1, "settle", 1);
        due("each call begins with the first link", OPEN, "state", 0);
        is(1, "settle", 1);
        due("then from 1", OPEN, "state", 1);
        is(1, "settle", 1);
        due("then from 8", 0, "waiting", 8, 0);
    }

    /** Promise 19: "NONE when n is not 1 .. 200." */
    void promise19NoSuchCount() {
        building(2);
        refusedEach("settle", 0, -1, 201, LOW, HIGH);
        is(6, "settle", 200);
        due("nothing to hand over", 0, "settle", 1);
        refusedEach("settle", 0, 201);
    }

    // ---- Promises 20 and 21

    /** The calls that take a circuit, on those that are not there. */
    private void refusedWithoutCircuit(String name) {
        refused(name, 0);
        building(1);
        is(0, name, 0);
        refusedEach(name, -1, 1, 5, 6, LOW, HIGH);
        crowd(0);
        is(0, name, 5);
        refusedEach(name, -1, 6, 7, 8);
    }

    /** Promise 20: "0 BUILDING, 1 OPEN, 2 GONE". */
    void promise20EachState() {
        building(3);
        is(BUILDING, "state", 0);
        is(11, "settle", 11);
        due("up to the last answer", BUILDING, "state", 0);
        is(1, "settle", 1);
        is(OPEN, "state", 0);
        is(1, "destroy", 0);
        is(GONE, "state", 0);
    }

    /** Promise 20: "NONE when there is no such circuit." */
    void promise20NoSuchCircuit() {
        refusedWithoutCircuit("state");
    }

    /** Promise 21: "How many hops of a circuit have answered rightly". */
    void promise21NoneToThree() {
        building(3);
        int[] cells = {1, 1, 3, 1, 5, 1};
        int[] hops = {0, 1, 1, 2, 2, 3};
        is(0, "hops", 0);
        for (int i = 0; i < cells.length; i++) {
            is(cells[i], "settle", cells[i]);
            is(hops[i], "hops", 0);
        }
    }

    /** Promise 21: "How many hops of a circuit have answered rightly". A wrong answer is none. */
    void promise21WrongAnswer() {
        for (int right = 0; right < 3; right++) {
            building(3);
            int[] cells = {1, 4, 9};
            is(cells[right], "settle", cells[right]);
            if (right > 0) {
                call("alter", right, right - 1, 37, 1);
            } else {
                call("alter", 0, 8, 37, 1);
            }
            call("settle", 200);
            is(right, "hops", 0);
            is(GONE, "state", 0);
        }
    }

    /** Promise 21: "NONE when there is none such." */
    void promise21NoSuchCircuit() {
        refusedWithoutCircuit("hops");
    }

    // ---- Promise 22

    /**
     * Promise 22: "Of a stream: what = 0 0 WAITING, 1 OPEN, 2 GONE; 1 its window; 2 bytes that wait; 3
     * bytes that were kept."
     */
    void promise22EachOfThem() {
        open(1);
        is(1, "stream", 0, ECHO);
        int[][] want = {{WAITING, 4, 0, 0}, {OPEN, 3, 1, 0}, {OPEN, 3, 1, 2}, {GONE, 3, 1, 2}};
        for (int step = 0; step < 4; step++) {
            if (step == 1) {
                call("settle", 200);
                puts(2, 7);
                is(2, "push", 0, 1);
                puts(1, 9);
            } else if (step == 2) {
                call("settle", 200);
            } else if (step == 3) {
                is(1, "close", 0, 1);
            }
            for (int what = 0; what < 4; what++) {
                is(want[step][what], "told", 0, 1, what);
            }
        }
    }

    /** Promise 22: "NONE when there is none such, or for others." */
    void promise22NoneSuch() {
        streaming(1, ECHO);
        refusedWithoutStream("told");
        for (int what : new int[] {-1, 4, 5, LOW, HIGH}) {
            refused("told", 0, 1, what);
        }
        for (int i = 2; i <= 4; i++) {
            is(NONE, "told", 0, i, 0);
            is(i, "stream", 0, ECHO);
            is(WAITING, "told", 0, i, 0);
        }
        refused("told", 0, 5, 0);
        refused("told", 0, 0, 0);
    }

    // ---- Promises 23 and 24

    /** Promise 23: "Byte i that a stream kept". */
    void promise23FirstAndLastByte() {
        streaming(1, ECHO);
        is(NONE, "got", 0, 1, 0);
        puts(3, 254);
        is(3, "push", 0, 1);
        call("settle", 200);
        is(254, "got", 0, 1, 0);
        is(255, "got", 0, 1, 1);
        is(0, "got", 0, 1, 2);
        is(1, "destroy", 0);
        due("as it was then", 0, "got", 0, 1, 2);
    }

    /** Promise 23: "NONE when there is none such." */
    void promise23NoneSuch() {
        streaming(1, ECHO);
        refused("got", 0, 1, 0);
        pushes(0, 1, 1);
        call("settle", 200);
        is(1, "got", 0, 1, 0);
        for (int i : new int[] {-1, 1, 1999, 2000, LOW, HIGH}) {
            refused("got", 0, 1, i);
        }
        refusedWithoutStream("got");
    }

    /** Promise 24: "Byte i that a relay kept". */
    void promise24FirstAndLastByte() {
        streaming(1, KEEP);
        is(NONE, "kept", 0, 0);
        puts(3, 254);
        is(3, "push", 0, 1);
        call("settle", 200);
        is(254, "kept", 0, 0);
        is(255, "kept", 0, 1);
        is(0, "kept", 0, 2);
    }

    /** Promise 24: "NONE when there is none such." */
    void promise24NoneSuch() {
        streaming(1, KEEP);
        refused("kept", 0, 0);
        pushes(0, 1, 1);
        call("settle", 200);
        is(1, "kept", 0, 0);
        for (int i : new int[] {-1, 1, 1999, 2000, LOW, HIGH}) {
            refused("kept", 0, i);
        }
        refusedEach("kept", -1, 1, 3, 5, 6, 8, LOW, HIGH);
    }

    // ---- Promise 25

    /** Promise 25: "Of a relay: what = 0 its entries, 1 streams in all of them, 2 bytes kept." */
    void promise25EachOfThem() {
        streaming(2, KEEP);
        is(1, "circuit", 8, 1, NONE, NONE);
        call("settle", 200);
        is(1, "stream", 1, ECHO);
        is(2, "stream", 1, KEEP);
        call("settle", 200);
        pushes(0, 1, 2);
        pushes(1, 2, 1);
        call("settle", 200);
        int[][] want = {{1, 0, 0}, {2, 3, 3}, {0, 0, 0}};
        for (int relay = 0; relay < 3; relay++) {
            for (int what = 0; what < 3; what++) {
                is(want[relay][what], "has", relay, what);
            }
        }
        is(1, "destroy", 0);
        is(1, "destroy", 1);
        call("settle", 200);
        is(0, "has", 1, 0);
        is(0, "has", 1, 1);
        due("what was kept stays", 3, "has", 1, 2);
    }

    /** Promise 25: "NONE when there is none such, or for others." */
    void promise25NoneSuch() {
        refused("has", 0, 0);
        streaming(1, KEEP);
        for (int what : new int[] {-1, 3, 4, LOW, HIGH}) {
            refused("has", 0, what);
        }
        refusedEach("has", -1, 3, 5, 6, 8, LOW, HIGH);
        anew();
        nodes(6, 2);
        is(0, "has", 5, 0);
        refusedEach("has", 6, 7, 8, 9);
    }
}
