import java.util.Random;

/** Calls of any kind with any arguments in any state: each ends, throws nothing, and answers as the model. */
public final class AnyCallsTest extends Bench {
    private static final int[] EDGES = {LOW, LOW + 1, -256, -2, -1, 0, 1, 2, 3, 4, 5, 6, 7, 8, 9, 10, 31, 32, 35, 36,
        139, 140, 200, 201, 255, 256, 1000, 1001, 1999, 2000, 65535, 65536, HIGH - 1, HIGH};
    private static final int[] FEW_EDGES = {LOW, -2, -1, 0, 1, 2, 8, 9, 140, 256, HIGH};
    private static final long[] LONG_EDGES = {Long.MIN_VALUE, Long.MIN_VALUE + 1, LOW, -1, 0, 1, 1L << 19, 1L << 20,
        1L << 40, 1L << 59, 1L << 60, HIGH, Long.MAX_VALUE};
    private static final int STATES = 6;
    private static final int RUNS = 300;

    public static void main(String[] args) throws ReflectiveOperationException {
        runAll(AnyCallsTest.class);
    }

    /** An object that is new, has nodes, builds, has data under way, has all that it can have, has lost all. */
    private void enter(int state) {
        anew();
        if (state == 0) {
            return;
        }
        nodes(6, 2);
        if (state >= 2) {
            call("circuit", 8, 0, 1, 2);
            call("circuit", 9, 3, 4, NONE);
            call("settle", state == 2 ? 7 : 200);
        }
        if (state >= 3) {
            call("stream", 0, ECHO);
            call("stream", 1, KEEP);
            call("settle", 200);
            pushes(0, 1, 2);
            pushes(1, 1, 3);
            call("settle", 8);
        }
        if (state >= 4) {
            fill();
        }
        if (state == 5) {
            for (int circuit = 0; circuit < 6; circuit++) {
                call("destroy", circuit);
            }
            call("settle", 200);
        }
    }

    private void fill() {
        for (int circuit = 2; circuit < 6; circuit++) {
            call("circuit", 8, circuit, NONE, NONE);
        }
        call("settle", 200);
        for (int i = 0; i < 24; i++) {
            call("stream", i % 6, 1 + i % 2);
            call("put", i % 6, i / 6 + 1, i);
        }
        call("settle", 60);
        for (int i = 0; i < 24; i++) {
            call("push", i % 6, i / 6 + 1);
        }
    }

    private static long edge(Class<?> type, boolean few, int at) {
        if (type == long.class) {
            return LONG_EDGES[at % LONG_EDGES.length];
        }
        int[] edges = few ? FEW_EDGES : EDGES;
        return edges[at % edges.length];
    }

    private static int edges(Class<?> type, boolean few) {
        return type == long.class ? LONG_EDGES.length : few ? FEW_EDGES.length : EDGES.length;
    }

    /** Every set of edges as arguments of a call, each object taking as many calls as it has. */
    private void callWithEdges(int state, String name) {
        Class<?>[] types = Face.types(name);
        boolean few = types.length > 2;
        int sets = 1;
        for (Class<?> type : types) {
            sets *= edges(type, few);
        }
        enter(state);
        for (int set = 0; set < sets; set++) {
            if (twin.made.size() == Face.CALLS) {
                enter(state);
            }
            long[] args = new long[types.length];
            int rest = set;
            for (int i = 0; i < types.length; i++) {
                args[i] = edge(types[i], few, rest);
                rest /= edges(types[i], few);
            }
            call(name, args);
        }
    }

    /** What it is: "An object is used for at most 512 calls after it has been made". All edges in each state. */
    void edgesInEachState() {
        for (int state = 0; state < STATES; state++) {
            for (String name : Face.NAMES) {
                callWithEdges(state, name);
            }
        }
    }

    private long any(Random random, Class<?> type) {
        switch (random.nextInt(4)) {
            case 0: return edge(type, false, random.nextInt(EDGES.length));
            case 1: return type == long.class ? random.nextLong() : random.nextInt();
            default: return random.nextInt(11) - 1;
        }
    }

    private Face.Call anyCall(Random random) {
        String name = Face.NAMES.get(random.nextInt(Face.NAMES.size()));
        Class<?>[] types = Face.types(name);
        long[] args = new long[types.length];
        for (int at = 0; at < types.length; at++) {
            args[at] = any(random, types[at]);
        }
        return new Face.Call(name, args);
    }

    /** What it is: "An object is used for at most 512 calls after it has been made". Runs of all 512, of any calls. */
    void runsOfAnyCalls() {
        for (int run = 0; run < RUNS; run++) {
            Random random = new Random(run);
            enter(run % STATES);
            for (int i = twin.made.size(); i < Face.CALLS; i++) {
                Face.Call any = anyCall(random);
                call(any.name(), any.args());
            }
            DUE.is("calls", twin.made.size(), Face.CALLS);
        }
    }

    /** What it is: "An object is used for at most 512 calls after it has been made". The 512th is as good as any. */
    void theLastOfAllCalls() {
        String[] names = {"settle", "put", "push", "circuit", "stream", "deliver", "destroy"};
        long[][] args = {{200}, {0, 1, 3}, {0, 1}, {8, 1, NONE, NONE}, {0, ECHO}, {8, 0}, {0}};
        int[] want = {8, 1, 1, 1, 2, RELAY, 1};
        for (int i = 0; i < names.length; i++) {
            streaming(2, ECHO);
            pushes(0, 1, 1);
            call("settle", 4);
            pushes(0, 1, 1);
            call("put", 0, 1, 2);
            while (twin.made.size() < Face.CALLS - 1) {
                call("look", 8, 0, 0, twin.made.size() % 140);
            }
            is(want[i], names[i], args[i]);
            DUE.is("calls", twin.made.size(), Face.CALLS);
        }
    }

    /**
     * What it is: "what later calls answer is free." Nobody looks at the answers here, but each call ends,
     * and none throws: more bytes are sent than are kept, and then come calls of any kind.
     */
    void laterCalls() {
        OnionNet net = new OnionNet();
        net.relay(1);
        net.client(2);
        net.circuit(8, 0, NONE, NONE);
        net.settle(200);
        net.stream(0, ECHO);
        net.stream(0, KEEP);
        for (int i = 0; i < 5 * Face.CALLS; i++) {
            net.put(0, 1, i);
            net.put(0, 2, i);
            net.push(0, 1);
            net.push(0, 2);
            net.settle(200);
        }
        Random random = new Random(1);
        for (int i = 0; i < 20 * Face.CALLS; i++) {
            Face.answer(net, anyCall(random));
        }
    }

    /**
     * What it is: "An onion network in steps: relays and clients that hand cells over links, keys agreed hop
     * by hop, layers of encryption with running digests, streams with windows to services at the last hop,
     * under a schedule of deliveries, losses and alterations."
     */
    void networkInSteps() {
        nodes(3, 2);
        call("circuit", 8, 0, 1, 2);
        call("circuit", 9, 1, 2, 0);
        due("twelve cells each", 24, "settle", 200);
        is(3, "hops", 0);
        is(3, "hops", 1);
        is(1, "stream", 0, ECHO);
        is(1, "stream", 1, KEEP);
        call("settle", 200);
        due("at the last hop", 1, "has", 2, 1);
        due("at the last hop", 1, "has", 0, 1);
        pushes(0, 1, 4);
        call("put", 0, 1, 5);
        due("the window is 0", 0, "push", 0, 1);
        pushes(1, 1, 2);
        call("settle", 200);
        is(4, "told", 0, 1, 3);
        is(2, "has", 0, 2);
        is(1, "push", 0, 1);
        due("one is lost", 1, "drop", 8, 0);
        pushes(1, 1, 1);
        due("one is altered", 1, "alter", 9, 1, 100, 1);
        call("settle", 200);
        due("who lost one knows nothing of it", OPEN, "state", 0);
        due("the other one's last relay knows no such digest", GONE, "state", 1);
        pushes(0, 1, 1);
        call("settle", 200);
        due("the ciphers are apart", GONE, "state", 0);
        is(4, "got", 0, 1, 3);
        is(2, "kept", 0, 1);
    }

    /** The first cell of a link from relay 0 to relay 1 goes by another number than it was sent with. */
    private void renumber(int from, int to) {
        call("alter", from, to, 3, 1000 ^ 1001);
    }

    /** A cell of circuit 0 comes to the second relay, which knows it by 1001 and not by 1000. */
    private void sendToSecond() {
        call("stream", 0, ECHO);
        delivers(8, 0, 1);
        renumber(0, 1);
    }

    private byte[] extendTo(int relay) {
        Model.Relay next = twin.model.relays.get(relay);
        return Twin.payload(EXTEND, 0, 69, Crypto.join(Crypto.one(relay), next.mark, next.key, new byte[32]));
    }

    /**
     * Promise 19: "until none has, or n cells were handed over: how many were." A cell that goes round
     * for ever: relay 1 goes on to relay 0 by 1000, and that entry goes on to relay 1 by 1001, by which
     * the first one came.
     */
    void cellThatNeverRests() {
        building(2);
        is(3, "settle", 3);
        renumber(0, 1);
        is(CREATE, "deliver", 0, 1);
        renumber(1, 0);
        call("settle", 200);
        is(OPEN, "state", 0);
        sendToSecond();
        twin.forge(0, 1, extendTo(0));
        delivers(0, 1, 1);
        is(CREATE, "deliver", 1, 0);
        is(CREATED, "deliver", 0, 1);
        is(1, "drop", 1, 0);
        sendToSecond();
        delivers(0, 1, 1);
        twin.forge(1, 0, extendTo(1));
        is(RELAY, "deliver", 1, 0);
        is(1, "drop", 0, 1);
        sendToSecond();
        twin.forge(0, 1, Twin.payload(BEGIN, 1, 1, (byte) ECHO));
        delivers(0, 1, 1);
        call("alter", 1, 0, 4, RELAY ^ CREATED);
        is(CREATED, "deliver", 1, 0);
        for (int i = 0; i < 20; i++) {
            is(200, "settle", 200);
            is(1, "waiting", 0, 1);
        }
        is(1, "settle", 1);
        is(1, "waiting", 1, 0);
        refused("settle", 201);
    }
}
