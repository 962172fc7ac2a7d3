import java.util.Arrays;

/**
 * What "Terms" says of hashes, handshakes, keys, payloads and digests. The bytes that are due are
 * reckoned here from the seeds alone, as the sentences tell it, and not from what the Model holds.
 */
public final class KeyTermsTest extends Bench {
    private static final int DIGEST_FORWARDS = 1;
    private static final int DIGEST_BACKWARDS = 2;
    private static final int CIPHER_FORWARDS = 3;
    private static final int CIPHER_BACKWARDS = 4;
    private static final byte[] NOTHING = new byte[0];

    public static void main(String[] args) throws ReflectiveOperationException {
        runAll(KeyTermsTest.class);
    }

    /** What two sides agree on: S, and what is reckoned with it. */
    private static final class Agreed {
        final byte[] offer;
        final byte[] s;
        final byte[] answer;

        Agreed(byte[] first, byte[] second, byte[] offer, byte[] y) {
            this.offer = offer;
            s = Crypto.join(first, second, offer, y, Crypto.NAME);
            answer = Crypto.join(y, Crypto.hmac(labelled(4), s));
        }

        byte[] key(int number) {
            return Crypto.hmac(Crypto.hmac(labelled(5), s), Crypto.one(number));
        }
    }

    private static byte[] labelled(int label) {
        return Crypto.join(Crypto.NAME, Crypto.one(label));
    }

    private static byte[] keyOf(long seed) {
        return Arrays.copyOf(Crypto.keyAndMark(seed), 32);
    }

    /** MARK, KEY and X. */
    private static byte[] offer(byte[] x, long seed) {
        byte[] mark = Arrays.copyOfRange(Crypto.keyAndMark(seed), 32, 36);
        return Crypto.join(mark, keyOf(seed), Crypto.curve(x, Crypto.base()));
    }

    private static Agreed byRelay(byte[] x, byte[] y, long seed) {
        byte[] told = Crypto.curve(x, Crypto.base());
        return new Agreed(Crypto.curve(y, told), Crypto.curve(Crypto.secret(seed), told), offer(x, seed),
                Crypto.curve(y, Crypto.base()));
    }

    private static Agreed byClient(byte[] x, byte[] told, long seed) {
        return new Agreed(Crypto.curve(x, told), Crypto.curve(x, keyOf(seed)), offer(x, seed), told);
    }

    /** Of the first circuit, over relays 0, 1, 2, all of them made by Bench. */
    private static Agreed hop(int hop) {
        return byRelay(Crypto.draw(101, hop), Crypto.draw(hop + 1, 0), hop + 1);
    }

    /** The payload with its digest, by the key and what was hashed before. */
    private static byte[] signed(byte[] digestKey, byte[] before, byte[] payload) {
        byte[] made = payload.clone();
        System.arraycopy(Crypto.sha(digestKey, before, payload), 0, made, 5, 4);
        return made;
    }

    /** The payload with a cipher laid over it that so many payloads had before. */
    private static byte[] laid(byte[] cipherKey, int before, byte[] payload) {
        byte[] laid = Crypto.keystream(cipherKey, 135 * before, 135);
        for (int i = 0; i < 135; i++) {
            laid[i] ^= payload[i];
        }
        return laid;
    }

    private void sealIs(byte[] want) {
        for (int i = 0; i < 32; i++) {
            is(want[i] & 255, "seal", i);
        }
    }

    // ---- hashes

    /** Terms: "| is one behind another. SHA ( .. ) is SHA-256;" */
    void hashOfOneBehindAnother() {
        sealIs(Crypto.sha(Crypto.NAME, Crypto.one(6)));
        nodes(2, 0);
        call("weigh", 0, 258);
        sealIs(Crypto.seal(258, 10));
    }

    /** Terms: "(all as published). NAME is the eight bytes of ONIONNET." */
    void eightBytesOfName() {
        sealIs(Crypto.sha(new byte[] {79, 78, 73, 79, 78, 78, 69, 84, 6}));
    }

    private static byte[] padded(byte[] key, int pad) {
        byte[] block = Arrays.copyOf(key, 64);
        for (int i = 0; i < 64; i++) {
            block[i] ^= (byte) pad;
        }
        return block;
    }

    /** Terms: "HMAC ( key, .. ) the HMAC of it;" As it is published: over two hashes. */
    void hmacOfTwoHashes() {
        building(1);
        delivers(8, 0, 1);
        byte[] key = labelled(4);
        bytes(Crypto.sha(padded(key, 0x5c), Crypto.sha(padded(key, 0x36), hop(0).s)), 0, 8, 0, 37);
    }

    // ---- seeds

    /** Terms: "NODES: relays 0, 1, .. (at most 6), clients 8, 9. Each has a SEED (8 bytes)." Each byte of it counts. */
    void bytesOfASeed() {
        for (int i = 0; i < 8; i++) {
            anew();
            long seed = 0x0102030405060708L ^ 0x80L << 8 * i;
            call("relay", seed);
            call("client", ~seed);
            call("circuit", 8, 0, NONE, NONE);
            bytes(offer(Crypto.draw(~seed, 0), seed), 8, 0, 0, 5);
        }
    }

    /**
     * Terms: "A relay's SECRET is SHA ( NAME | 2 | SEED ), its KEY CURVE ( SECRET, G ), its MARK the first
     * 4 bytes of SHA ( NAME | 3 | KEY )."
     */
    void keyAndMarkOfASeed() {
        for (long seed : SEEDS) {
            anew();
            call("relay", seed);
            byte[] secret = Crypto.sha(labelled(2), Crypto.number(seed, 8));
            byte[] key = Crypto.curve(secret, Crypto.base());
            byte[] mark = Crypto.sha(labelled(3), key);
            for (int i = 0; i < 36; i++) {
                is((i < 32 ? key[i] : mark[i - 32]) & 255, "key", 0, i);
            }
        }
    }

    // ---- handshakes

    /**
     * Terms: "HANDSHAKE: the one who begins draws x and sends MARK | KEY | X of a relay, X = CURVE ( x, G )
     * (68 bytes). The relay, if the first two are its own, draws y; Y = CURVE ( y, G ), S = CURVE ( y, X ) |
     * CURVE ( SECRET, X ) | MARK | KEY | X | Y | NAME; the answer is Y | HMAC ( NAME | 4, S ) (64 bytes)."
     */
    void offerAndAnswer() {
        building(1);
        bytes(hop(0).offer, 8, 0, 0, 5);
        is(CREATE, "deliver", 8, 0);
        bytes(hop(0).answer, 0, 8, 0, 5);
        bytes(new byte[71], 0, 8, 0, 69);
    }

    private void answerBecomes(byte[] answer) {
        building(1);
        delivers(8, 0, 1);
        become(answer, 0, 8, 5);
        is(CREATED, "deliver", 0, 8);
    }

    /**
     * Terms: "The one who began reckons S with CURVE ( x, Y ) and CURVE ( x, KEY ); the answer is RIGHT when
     * its last 32 bytes are." Whose Y it is does not count; one who knows no SECRET can't answer.
     */
    void answerAsTheClientReckonsIt() {
        byte[] x = Crypto.draw(101, 0);
        byte[] anyPoint = Crypto.sha(Crypto.one(77));
        answerBecomes(byClient(x, anyPoint, 1).answer);
        is(OPEN, "state", 0);
        byte[] y = Crypto.sha(Crypto.one(78));
        answerBecomes(byRelay(x, y, 1).answer);
        is(OPEN, "state", 0);
        byte[] first = Crypto.curve(y, Crypto.curve(x, Crypto.base()));
        answerBecomes(new Agreed(first, first, offer(x, 1), Crypto.curve(y, Crypto.base())).answer);
        is(GONE, "state", 0);
        answerBecomes(byRelay(x, y, 2).answer);
        due("another relay's", GONE, "state", 0);
    }

    /**
     * Terms: "With K = HMAC ( NAME | 5, S ) both have the keys HMAC ( K, 1 ) digest forwards, HMAC ( K, 2 )
     * digest backwards, HMAC ( K, 3 ) cipher forwards, HMAC ( K, 4 ) cipher backwards (1 .. 4 being one byte)."
     */
    void fourKeys() {
        open(1);
        call("stream", 0, ECHO);
        byte[] begin = Twin.payload(BEGIN, 1, 1, (byte) ECHO);
        bytes(laid(hop(0).key(CIPHER_FORWARDS), 0, signed(hop(0).key(DIGEST_FORWARDS), NOTHING, begin)), 8, 0, 0, 5);
        delivers(8, 0, 1);
        byte[] connected = Twin.payload(CONNECTED, 1, 0);
        bytes(laid(hop(0).key(CIPHER_BACKWARDS), 0, signed(hop(0).key(DIGEST_BACKWARDS), NOTHING, connected)),
                0, 8, 0, 5);
        delivers(0, 8, 1);
        is(OPEN, "told", 0, 1, 0);
    }

    // ---- payloads

    /**
     * Terms: "A PAYLOAD of RELAY has a command (1: BEGIN 1, DATA 2, END 3, CONNECTED 4, SENDME 5, EXTEND 14,
     * EXTENDED 15), two bytes 0, a stream (2; any number of two bytes), a digest (4), a length (2), data."
     */
    void partsOfAPayload() {
        streaming(1, ECHO);
        is(2, "stream", 0, ECHO);
        delivers(8, 0, 1);
        delivers(0, 8, 1);
        call("put", 0, 2, 70);
        call("put", 0, 2, 71);
        is(2, "push", 0, 2);
        byte[] cell = twin.model.link(8, 0).get(0);
        byte[] bare = laid(hop(0).key(CIPHER_FORWARDS), 2, Arrays.copyOfRange(cell, 5, 140));
        byte[] before = Crypto.join(Twin.payload(BEGIN, 1, 1, (byte) ECHO), Twin.payload(BEGIN, 2, 1, (byte) ECHO));
        byte[] data = Arrays.copyOf(new byte[] {DATA, 0, 0, 0, 2, 0, 0, 0, 0, 0, 2, 70, 71}, 135);
        DUE.yes("the parts", Arrays.equals(bare, signed(hop(0).key(DIGEST_FORWARDS), before, data)));
        bytes(Arrays.copyOfRange(cell, 5, 140), 8, 0, 0, 5);
    }

    /**
     * Terms: "The DIGEST for a digest key are the first 4 bytes of SHA ( key | all payloads before that were
     * made or recognized by this key, in order, as they were hashed | this payload with 0 for its digest )."
     * Forwards.
     */
    void digestsForwards() {
        streaming(1, ECHO);
        pushes(0, 1, 2);
        byte[] before = Twin.payload(BEGIN, 1, 1, (byte) ECHO);
        for (int i = 0; i < 2; i++) {
            byte[] data = Twin.payload(DATA, 1, 1, (byte) (1 + i));
            byte[] made = signed(hop(0).key(DIGEST_FORWARDS), before, data);
            bytes(laid(hop(0).key(CIPHER_FORWARDS), 1 + i, made), 8, 0, i, 5);
            before = Crypto.join(before, data);
        }
        call("settle", 200);
        due("and so the relay reckons them", 2, "told", 0, 1, 3);
    }

    /** Terms: "all payloads before that were made or recognized by this key, in order, as they were hashed". Backwards. */
    void digestsBackwards() {
        streaming(1, ECHO);
        pushes(0, 1, 2);
        delivers(8, 0, 2);
        byte[][] sent = {Twin.payload(DATA, 1, 1, (byte) 1), Twin.payload(SENDME, 1, 0),
            Twin.payload(DATA, 1, 1, (byte) 2)};
        byte[] before = Twin.payload(CONNECTED, 1, 0);
        for (int i = 0; i < 3; i++) {
            byte[] made = signed(hop(0).key(DIGEST_BACKWARDS), before, sent[i]);
            bytes(laid(hop(0).key(CIPHER_BACKWARDS), 1 + i, made), 0, 8, i, 5);
            before = Crypto.join(before, sent[i]);
        }
        delivers(0, 8, 3);
        due("and so the client reckons them", 2, "told", 0, 1, 3);
    }

    private static byte[] extendTo(int hop) {
        return Twin.payload(EXTEND, 0, 69, Crypto.join(Crypto.one(hop), hop(hop).offer));
    }

    /**
     * Terms: "all payloads before that were made or recognized by this key". Those that only passed the
     * first relay, by its cipher, are not among them.
     */
    void payloadsOfOtherKeys() {
        open(2);
        call("stream", 0, ECHO);
        call("settle", 200);
        pushes(0, 1, 1);
        byte[] begin = Twin.payload(BEGIN, 9, 1, (byte) KEEP);
        byte[] made = signed(hop(0).key(DIGEST_FORWARDS), extendTo(1), begin);
        become(laid(hop(0).key(CIPHER_FORWARDS), 2, made), 8, 0, 5);
        delivers(8, 0, 1);
        is(0, "waiting", 0, 1);
        due("the stream is the first relay's", 1, "has", 0, 1);
    }

    // ---- layers

    /** A payload to the third hop, with the layers that are on it when it comes to this one. */
    private static byte[] comesTo(int hop) {
        byte[] begin = Twin.payload(BEGIN, 1, 1, (byte) ECHO);
        byte[] made = signed(hop(2).key(DIGEST_FORWARDS), NOTHING, begin);
        for (int i = 2; i >= hop; i--) {
            made = laid(hop(i).key(CIPHER_FORWARDS), 2 - i, made);
        }
        return made;
    }

    /**
     * Terms: "RELAY for an entry that came from there: the forward cipher is taken off; if the forward digest
     * key recognizes it, it is DONE; otherwise it goes on (with its number there)". EXTEND had the ciphers
     * before: that of the first hop twice, that of the second once.
     */
    void layersForwards() {
        open(3);
        call("stream", 0, ECHO);
        bytes(comesTo(0), 8, 0, 0, 5);
        delivers(8, 0, 1);
        bytes(comesTo(1), 0, 1, 0, 5);
        delivers(0, 1, 1);
        bytes(comesTo(2), 1, 2, 0, 5);
        is(0, "has", 2, 1);
        delivers(1, 2, 1);
        due("it is done", 1, "has", 2, 1);
    }

    /** A payload from the third hop, with the layers that are on it when it leaves this one. */
    private static byte[] leaves(int hop) {
        byte[] made = signed(hop(2).key(DIGEST_BACKWARDS), NOTHING, Twin.payload(CONNECTED, 1, 0));
        for (int i = 2; i >= hop; i--) {
            made = laid(hop(i).key(CIPHER_BACKWARDS), 2 - i, made);
        }
        return made;
    }

    /**
     * Terms: "the backward ciphers are taken off, the nearest first, until that hop's backward digest key
     * recognizes it;". EXTENDED had the ciphers before.
     */
    void layersBackwards() {
        open(3);
        call("stream", 0, ECHO);
        is(3, "settle", 3);
        bytes(leaves(2), 2, 1, 0, 5);
        delivers(2, 1, 1);
        bytes(leaves(1), 1, 0, 0, 5);
        delivers(1, 0, 1);
        bytes(leaves(0), 0, 8, 0, 5);
        is(WAITING, "told", 0, 1, 0);
        delivers(0, 8, 1);
        is(OPEN, "told", 0, 1, 0);
    }

    /** Terms: "To SEND a payload back: made with the backward digest key, the backward cipher laid over it." */
    void sentByTheSecondOfThree() {
        building(3);
        call("settle", 10);
        byte[] extended = Twin.payload(EXTENDED, 0, 64, hop(2).answer);
        byte[] sent = laid(hop(1).key(CIPHER_BACKWARDS), 0, signed(hop(1).key(DIGEST_BACKWARDS), NOTHING, extended));
        bytes(sent, 1, 0, 0, 5);
        delivers(1, 0, 1);
        bytes(laid(hop(0).key(CIPHER_BACKWARDS), 1, sent), 0, 8, 0, 5);
        delivers(0, 8, 1);
        is(OPEN, "state", 0);
    }
}
