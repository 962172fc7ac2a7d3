import java.util.Arrays;

/** What "Terms" says of nodes, links, cells and handshakes, at its boundaries. */
public final class CellTermsTest extends Bench {
    public static void main(String[] args) throws ReflectiveOperationException {
        runAll(CellTermsTest.class);
    }

    // ---- nodes

    /** Terms: "relays 0, 1, .. (at most 6), clients 8, 9." */
    void numbersOfNodes() {
        for (int i = 0; i < 6; i++) {
            is(i, "relay", i);
        }
        is(8, "client", 0);
        is(9, "client", 0);
        is(NONE, "relay", 0);
        is(NONE, "client", 0);
        int[] there = {0, 5, 8, 9};
        int[] absent = {-1, 6, 7, 10};
        for (int node : there) {
            is(0, "waiting", node, node == 1 ? 2 : 1);
            for (int other : absent) {
                is(NONE, "waiting", node, other);
                is(NONE, "waiting", other, node);
            }
        }
    }

    /** Terms: "Its DRAWS are SHA ( NAME | 1 | SEED | n ), n = 0, 1, .. (4 bytes), one after the other." */
    void drawsOneAfterTheOther() {
        nodes(2, 1);
        for (int n = 0; n < 6; n++) {
            call("circuit", 8, 0, NONE, NONE);
            bytes(Crypto.curve(Crypto.draw(101, n), Crypto.base()), 8, 0, 0, 41);
            call("deliver", 8, 0);
            bytes(Crypto.curve(Crypto.draw(1, n), Crypto.base()), 0, 8, 0, 5);
            call("drop", 0, 8);
        }
    }

    // ---- cells

    /**
     * Terms: "A CELL has 140 bytes: a circuit number (4), a command (1: CREATE 10, CREATED 11, RELAY 3,
     * DESTROY 4)".
     */
    void commandsOfCells() {
        building(2);
        is(CREATE, "look", 8, 0, 0, 4);
        delivers(8, 0, 1);
        is(CREATED, "look", 0, 8, 0, 4);
        delivers(0, 8, 1);
        is(RELAY, "look", 8, 0, 0, 4);
        is(1, "destroy", 0);
        is(DESTROY, "look", 8, 0, 1, 4);
        call("look", 8, 0, 0, 139);
        is(NONE, "look", 8, 0, 0, 140);
    }

    /** Terms: "a payload (135; 0 where nothing is told)." */
    void zerosBehindWhatIsTold() {
        building(1);
        bytes(new byte[67], 8, 0, 0, 73);
        delivers(8, 0, 1);
        bytes(new byte[71], 0, 8, 0, 69);
        call("destroy", 0);
        bytes(new byte[135], 8, 0, 0, 5);
    }

    /**
     * Terms: "0 where nothing is told". Behind data, too, when as many bytes have been sent before as can
     * wait: none of them shows again.
     */
    void zerosBehindData() {
        streaming(1, KEEP);
        for (int i = 0; i < 400; i++) {
            is(1, "put", 0, 1, 255);
        }
        int[] counts = {124, 124, 124, 28};
        for (int count : counts) {
            is(count, "push", 0, 1);
        }
        call("settle", 200);
        is(1, "put", 0, 1, 255);
        is(1, "push", 0, 1);
        byte[] bare = twin.bare(8, 0, twin.layers(8, 0, 0));
        DUE.is("the data", bare[11] & 255, 255);
        DUE.is("behind it", bare[12], 0);
        bytes(Arrays.copyOfRange(twin.model.link(8, 0).get(0), 15, 60), 8, 0, 0, 15);
    }

    /** Terms: "BYTES are 0 .. 255; numbers in bytes have the highest one first". */
    void numbersOfFourBytes() {
        nodes(1, 1);
        for (int i = 0; i < 4; i++) {
            call("circuit", 8, 0, NONE, NONE);
            byte[] number = Crypto.number(255L << 8 * i, 4);
            become(number, 8, 0, 0);
            is(CREATE, "deliver", 8, 0);
            is(CREATED, "look", 0, 8, i, 4);
            bytes(number, 0, 8, i, 0);
            due("another entry", i + 1, "has", 0, 0);
        }
        due("left out by the client", 4, "settle", 200);
        is(BUILDING, "state", 0);
    }

    // ---- links

    /** Four streams to ECHO are open. */
    private void fourStreams(int hops) {
        open(hops);
        for (int stream = 1; stream <= 4; stream++) {
            is(stream, "stream", 0, ECHO);
        }
        call("settle", 200);
        is(4, "has", hops - 1, 1);
    }

    /** Eight cells of circuit 0 lie on the way from the client to relay 0. */
    private void eightToRelay(int hops) {
        fourStreams(hops);
        for (int stream = 1; stream <= 4; stream++) {
            pushes(0, stream, 2);
        }
        is(8, "waiting", 8, 0);
    }

    /** Eight cells lie on the way to the client; the ninth, DATA of stream 3, is lost. */
    private void eightToClient() {
        fourStreams(1);
        for (int stream = 1; stream <= 3; stream++) {
            pushes(0, stream, 2);
        }
        delivers(8, 0, 6);
        is(8, "waiting", 0, 8);
    }

    /** Terms: "at most 8; one for which there is no room is lost; for the sender it is sent". CREATE. */
    void lostCreate() {
        eightToRelay(1);
        is(1, "circuit", 8, 0, NONE, NONE);
        is(8, "waiting", 8, 0);
        call("settle", 200);
        is(BUILDING, "state", 1);
        is(1, "has", 0, 0);
        is(2, "circuit", 8, 1, NONE, NONE);
        due("its number is used", 3, "look", 8, 1, 0, 3);
        bytes(Crypto.curve(Crypto.draw(101, 2), Crypto.base()), 8, 1, 0, 41);
    }

    /** Terms: "at most 8; one for which there is no room is lost; for the sender it is sent". BEGIN. */
    void lostBegin() {
        open(1);
        for (int stream = 1; stream <= 3; stream++) {
            is(stream, "stream", 0, ECHO);
        }
        call("settle", 200);
        pushes(0, 1, 3);
        pushes(0, 2, 3);
        pushes(0, 3, 1);
        is(7, "waiting", 8, 0);
        pushes(0, 3, 1);
        is(8, "waiting", 8, 0);
        is(4, "stream", 0, ECHO);
        is(8, "waiting", 8, 0);
        delivers(8, 0, 8);
        is(WAITING, "told", 0, 4, 0);
        due("the relay knows nothing of it", 3, "has", 0, 1);
        pushes(0, 3, 1);
        delivers(8, 0, 1);
        due("digest and cipher went on", 0, "has", 0, 0);
    }

    /** Terms: "at most 8; one for which there is no room is lost; for the sender it is sent". DATA. */
    void lostData() {
        eightToRelay(1);
        is(2, "told", 0, 1, 1);
        is(1, "put", 0, 1, 9);
        is(1, "push", 0, 1);
        is(8, "waiting", 8, 0);
        due("the window is one less", 1, "told", 0, 1, 1);
        due("it waits no more", 0, "told", 0, 1, 2);
        delivers(8, 0, 8);
        is(1, "has", 0, 0);
        pushes(0, 2, 1);
        delivers(8, 0, 1);
        due("digest and cipher went on", 0, "has", 0, 0);
    }

    /** Terms: "at most 8; one for which there is no room is lost; for the sender it is sent". END. */
    void lostEnd() {
        eightToRelay(1);
        is(1, "close", 0, 1);
        is(8, "waiting", 8, 0);
        is(GONE, "told", 0, 1, 0);
        delivers(8, 0, 8);
        due("the relay knows nothing of it", 4, "has", 0, 1);
    }

    /** Terms: "at most 8; one for which there is no room is lost; for the sender it is sent". DESTROY of a client. */
    void lostDestroy() {
        eightToRelay(1);
        is(1, "destroy", 0);
        is(8, "waiting", 8, 0);
        is(GONE, "state", 0);
        is(GONE, "told", 0, 4, 0);
        call("settle", 200);
        due("the entry stays", 1, "has", 0, 0);
    }

    /** Terms: "at most 8; one for which there is no room is lost; for the sender it is sent". CREATED. */
    void lostCreated() {
        eightToClient();
        is(1, "circuit", 8, 0, NONE, NONE);
        is(CREATE, "deliver", 8, 0);
        is(8, "waiting", 0, 8);
        due("there is an entry", 2, "has", 0, 0);
        for (int i = 0; i < 8; i++) {
            is(RELAY, "look", 0, 8, 0, 4);
            is(1, "drop", 0, 8);
        }
        is(2, "circuit", 8, 0, NONE, NONE);
        is(CREATE, "deliver", 8, 0);
        bytes(Crypto.curve(Crypto.draw(1, 2), Crypto.base()), 0, 8, 0, 5);
    }

    /** Terms: "at most 8; one for which there is no room is lost; for the sender it is sent". DATA of ECHO. */
    void lostEcho() {
        eightToClient();
        for (int i = 0; i < 8; i++) {
            is(1, "drop", 0, 8);
        }
        pushes(0, 3, 2);
        delivers(8, 0, 2);
        due("third DATA; SENDME and fourth DATA", 3, "waiting", 0, 8);
        forged(DATA, 3, 1, 5);
        due("the lost one counts: the window is 0", 3, "waiting", 0, 8);
    }

    /** Terms: "at most 8; one for which there is no room is lost; for the sender it is sent". DESTROY of a relay. */
    void lostDestroyOfARelay() {
        eightToClient();
        pushes(0, 4, 1);
        is(1, "alter", 8, 0, 139, 1);
        is(RELAY, "deliver", 8, 0);
        is(8, "waiting", 0, 8);
        due("the entry is gone", 0, "has", 0, 0);
        call("settle", 200);
        due("the client does not know", OPEN, "state", 0);
    }

    /** Terms: "at most 8; one for which there is no room is lost; for the sender it is sent". Between relays. */
    void lostOnTheWay() {
        eightToRelay(2);
        delivers(8, 0, 8);
        is(8, "waiting", 0, 1);
        pushes(0, 1, 1);
        is(RELAY, "deliver", 8, 0);
        is(8, "waiting", 0, 1);
        delivers(0, 1, 8);
        is(1, "has", 1, 0);
        pushes(0, 2, 1);
        delivers(8, 0, 1);
        delivers(0, 1, 1);
        due("the second relay's cipher is out of step", 0, "has", 1, 0);
    }

    /** Terms: "From each node to each other one goes a LINK, on which cells lie in a row". More than eight in turn. */
    void rowGoesRoundItsEnd() {
        streaming(1, ECHO);
        for (int i = 1; i <= 20; i++) {
            is(1, "put", 0, 1, i);
            is(1, "push", 0, 1);
            call("settle", 200);
            is(i, "told", 0, 1, 3);
            is(i, "got", 0, 1, i - 1);
        }
    }

    // ---- handshakes

    /**
     * Terms: "CURVE ( scalar, point ) is X25519, G its base point 9". X of zeros gives zeros, and
     * nothing is refused for that.
     */
    void pointsOfLowOrder() {
        building(1);
        become(new byte[32], 8, 0, 41);
        call("deliver", 8, 0);
        due("an entry", 1, "has", 0, 0);
        lookAll(0, 8, 0);
        call("deliver", 0, 8);
        due("not right", GONE, "state", 0);
    }

    /**
     * Terms: "CURVE ( scalar, point ) is X25519". Half of all numbers are on the curve's twist, where it
     * holds as well.
     */
    void otherPoints() {
        for (int mask = 1; mask < 9; mask++) {
            building(1);
            call("alter", 8, 0, 41, mask);
            call("alter", 8, 0, 72, 128);
            call("deliver", 8, 0);
            lookAll(0, 8, 0);
        }
    }

    /** Terms: "the answer is RIGHT when its last 32 bytes are." The first and last byte of it, and the one behind. */
    void bytesOfAnAnswer() {
        nodes(1, 1);
        int[] at = {5, 36, 37, 38, 68, 69};
        for (int i = 0; i < 6; i++) {
            call("circuit", 8, 0, NONE, NONE);
            call("deliver", 8, 0);
            call("alter", 0, 8, at[i], 128);
            call("deliver", 0, 8);
            due("right or not", at[i] < 69 ? GONE : OPEN, "state", i);
            call("drop", 8, 0);
        }
    }

    /** Terms: "the one who begins draws x and sends MARK | KEY | X of a relay, X = CURVE ( x, G ) (68 bytes)." */
    void bytesOfAnOffer() {
        int[] at = {5, 8, 9, 40, 41, 72, 73, 139};
        for (int one : at) {
            building(1);
            call("alter", 8, 0, one, 64);
            call("deliver", 8, 0);
            due("MARK and KEY are told", one < 41 ? DESTROY : CREATED, "look", 0, 8, 0, 4);
            due("an entry or none", one < 41 ? 0 : 1, "has", 0, 0);
            call("settle", 200);
            due("X is told, too", one < 73 ? GONE : OPEN, "state", 0);
        }
    }

    // ---- ciphers and digests

    /**
     * Terms: "the KEYSTREAM of a key of 32 bytes are the ChaCha20 blocks of it with a nonce of 12 zero
     * bytes and block counters 0, 1, 2 .." Counters go past one byte here.
     */
    void keystreamPastAByteOfBlocks() {
        fourStreams(1);
        int rounds = 48;
        for (int i = 0; i < rounds; i++) {
            for (int stream = 1; stream <= 4; stream++) {
                call("put", 0, stream, i);
                call("push", 0, stream);
            }
            call("settle", 200);
        }
        is(OPEN, "state", 0);
        is(rounds, "told", 0, 4, 3);
        is(rounds - 1, "got", 0, 4, rounds - 1);
    }

    /**
     * Terms: "Ciphers go on from payload to payload, 135 bytes of keystream each, whatever comes of
     * them." All is right but the digest: the cell goes on just as the cipher left it.
     */
    void cellThatIsAlmostRecognized() {
        open(2);
        call("stream", 0, ECHO);
        var layers = twin.layers(8, 0, 0);
        byte[] payload = Twin.payload(BEGIN, 1, 1, (byte) ECHO);
        System.arraycopy(layers.get(0).due(payload), 0, payload, 5, 4);
        payload[8] ^= 1;
        twin.alterTo(8, 0, layers, payload);
        is(RELAY, "deliver", 8, 0);
        lookAll(0, 1, 0);
        due("the next one does not know it either", RELAY, "deliver", 0, 1);
        is(DESTROY, "deliver", 1, 0);
    }

    /** The client's BEGIN to the second of two hops becomes this payload to the first, of a right digest. */
    private void toFirstOfTwo(byte[] payload) {
        open(2);
        call("stream", 0, ECHO);
        twin.forge(8, 0, payload);
        is(RELAY, "deliver", 8, 0);
    }

    private void recognizedByFirst() {
        is(0, "waiting", 0, 1);
        is(1, "waiting", 0, 8);
        is(1, "has", 0, 1);
    }

    private void goesOn() {
        due("not recognized, so it goes on", 1, "waiting", 0, 1);
        is(0, "waiting", 0, 8);
        is(0, "has", 0, 1);
    }

    /** Terms: "A payload is RECOGNIZED by a key when its second and third bytes are 0". */
    void secondAndThirdByte() {
        toFirstOfTwo(Twin.payload(BEGIN, 1, 1, (byte) ECHO));
        recognizedByFirst();
        for (int at = 1; at <= 2; at++) {
            for (int value : new int[] {1, 128, 255}) {
                byte[] payload = Twin.payload(BEGIN, 1, 1, (byte) ECHO);
                payload[at] = (byte) value;
                toFirstOfTwo(payload);
                goesOn();
            }
        }
    }

    /** Terms: "its length at most 124". At a relay: 124 is done, 125 and more are not recognized. */
    void lengthAtARelay() {
        for (int length : new int[] {0, 124, 125, 126, 255, 256, 65535}) {
            toFirstOfTwo(Twin.payload(END, 1, length));
            due("it goes on when it is too long", length > 124 ? 1 : 0, "waiting", 0, 1);
            is(1, "has", 0, 0);
        }
        streaming(1, KEEP);
        forged(DATA, 1, 124, 7);
        is(124, "has", 0, 2);
        forged(DATA, 1, 125, 7);
        due("and it goes nowhere", 0, "has", 0, 0);
        is(124, "has", 0, 2);
        is(DESTROY, "look", 0, 8, 0, 4);
    }

    /** Terms: "its length at most 124". At a client: 124 are kept, 125 are not recognized. */
    void lengthAtAClient() {
        streaming(1, ECHO);
        answered(DATA, 1, 124);
        is(OPEN, "state", 0);
        is(124, "told", 0, 1, 3);
        for (int length : new int[] {125, 256, 65535}) {
            streaming(1, ECHO);
            answered(DATA, 1, length);
            is(GONE, "state", 0);
            is(0, "told", 0, 1, 3);
            is(DESTROY, "look", 8, 0, 0, 4);
        }
    }

    /** Terms: "and its digest that which is due now." Each of its four bytes. */
    void bytesOfADigest() {
        for (int at = 5; at < 9; at++) {
            open(2);
            call("stream", 0, ECHO);
            var layers = twin.layers(8, 0, 0);
            byte[] payload = Twin.payload(BEGIN, 1, 1, (byte) ECHO);
            System.arraycopy(layers.get(0).due(payload), 0, payload, 5, 4);
            payload[at] ^= (byte) 1;
            twin.alterTo(8, 0, layers, payload);
            is(RELAY, "deliver", 8, 0);
            goesOn();
        }
    }
}
