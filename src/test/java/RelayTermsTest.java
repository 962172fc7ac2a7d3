import java.util.Arrays;

/**
 * What "Terms" says of relays, at its boundaries. What honest clients never send comes from cells
 * that are altered until a key recognizes what the sentence is about.
 */
public final class RelayTermsTest extends Bench {
    public static void main(String[] args) throws ReflectiveOperationException {
        runAll(RelayTermsTest.class);
    }

    /** The entry is gone, and DESTROY lies on the way back. */
    private void destroyed() {
        is(0, "has", 0, 0);
        is(DESTROY, "look", 0, 8, 0, 4);
        is(1, "look", 0, 8, 0, 3);
    }

    // ---- CREATE

    /**
     * Terms: "DESTROY goes back (of that number) when there is an entry that came from this node with
     * this number".
     */
    void numberThatIsThereAlready() {
        open(1);
        call("circuit", 8, 0, NONE, NONE);
        call("alter", 8, 0, 3, 2 ^ 1);
        is(CREATE, "deliver", 8, 0);
        is(1, "waiting", 0, 8);
        bytes(new byte[] {0, 0, 0, 1, DESTROY, 0}, 0, 8, 0, 0);
        due("the entry stays", 1, "has", 0, 0);
        call("drop", 0, 8);
        call("stream", 0, ECHO);
        call("settle", 200);
        due("with its keys", OPEN, "told", 0, 1, 0);
    }

    /** Terms: "an entry that came from this node with this number". The same number from another node is another. */
    void sameNumberFromAnotherNode() {
        open(1);
        is(9, "client", 102);
        is(1, "circuit", 9, 0, NONE, NONE);
        is(1, "look", 9, 0, 0, 3);
        call("settle", 200);
        is(2, "has", 0, 0);
        is(OPEN, "state", 1);
        call("circuit", 8, 1, 0, NONE);
        call("circuit", 8, 2, 0, NONE);
        call("settle", 200);
        due("1000 from two relays", 4, "has", 0, 0);
        is(OPEN, "state", 2);
        is(OPEN, "state", 3);
    }

    /** Terms: "or MARK or KEY are not its own". */
    void markOrKeyOfAnother() {
        building(1);
        for (int at : new int[] {5, 8, 9, 40}) {
            call("circuit", 8, 1, NONE, NONE);
            call("alter", 8, 1, at, 1);
            is(CREATE, "deliver", 8, 1);
            is(DESTROY, "look", 1, 8, 0, 4);
            is(0, "has", 1, 0);
            is(DESTROY, "deliver", 1, 8);
        }
        call("circuit", 8, 1, NONE, NONE);
        is(CREATE, "deliver", 8, 1);
        is(CREATED, "look", 1, 8, 0, 4);
        is(1, "has", 1, 0);
    }

    /** Terms: "otherwise there is a new entry, y is drawn (only then), and CREATED with the answer goes back." */
    void drawnOnlyForANewEntry() {
        open(1);
        call("circuit", 8, 0, NONE, NONE);
        call("alter", 8, 0, 3, 2 ^ 1);
        delivers(8, 0, 1);
        call("drop", 0, 8);
        call("circuit", 8, 0, NONE, NONE);
        call("alter", 8, 0, 5, 1);
        delivers(8, 0, 1);
        call("drop", 0, 8);
        call("circuit", 8, 0, NONE, NONE);
        delivers(8, 0, 1);
        is(CREATED, "look", 0, 8, 0, 4);
        bytes(Crypto.curve(Crypto.draw(1, 1), Crypto.base()), 0, 8, 0, 5);
        is(2, "has", 0, 0);
    }

    /** A cell of circuit 0, or a DESTROY of another one, becomes CREATE of this number. */
    private void forgeCreate(int number) {
        if (call("stream", 0, ECHO) == NONE) {
            call("destroy", number - 9);
        }
        become(Crypto.join(Crypto.number(number, 4), Crypto.one(CREATE), twin.model.relays.get(0).mark,
                twin.model.relays.get(0).key), 8, 0, 0);
        is(CREATE, "deliver", 8, 0);
    }

    /**
     * Terms: "Of a cell from a node: CREATE: DESTROY goes back (of that number) when there is an entry that
     * came from this node with this number, or there are 12". Until one of them has gone.
     */
    void twelveEntries() {
        open(1);
        for (int number = 2; number <= 12; number++) {
            if (number <= 6) {
                call("circuit", 8, 0, NONE, NONE);
                delivers(8, 0, 1);
            } else {
                forgeCreate(number);
            }
            is(CREATED, "look", 0, 8, 0, 4);
            call("drop", 0, 8);
            is(number, "has", 0, 0);
        }
        forgeCreate(13);
        is(DESTROY, "look", 0, 8, 0, 4);
        due("of that number", 13, "look", 0, 8, 0, 3);
        call("drop", 0, 8);
        is(12, "has", 0, 0);
        is(1, "destroy", 0);
        is(DESTROY, "deliver", 8, 0);
        is(11, "has", 0, 0);
        forgeCreate(14);
        is(CREATED, "look", 0, 8, 0, 4);
        bytes(Crypto.curve(Crypto.draw(1, 12), Crypto.base()), 0, 8, 0, 5);
        is(12, "has", 0, 0);
    }

    /**
     * Terms: "A RELAY keeps entries (at most 12): where a circuit came from (node, number), its keys, perhaps
     * where it goes on (node, number), whether it waits for CREATED, its streams (at most 4)." Three that
     * differ in all of it.
     */
    void partsOfAnEntry() {
        nodes(2, 2);
        call("circuit", 8, 0, NONE, NONE);
        call("circuit", 9, 0, 1, NONE);
        call("settle", 200);
        call("circuit", 8, 0, 1, NONE);
        due("CREATE, CREATED, EXTEND", 3, "settle", 3);
        due("three entries", 3, "has", 0, 0);
        is(1, "stream", 0, ECHO);
        delivers(8, 0, 1);
        due("of the first", 1, "has", 0, 1);
        bytes(Crypto.number(1, 4), 0, 8, 0, 0);
        delivers(0, 8, 1);
        is(OPEN, "told", 0, 1, 0);
        is(1, "stream", 1, ECHO);
        delivers(9, 0, 1);
        due("CREATE of the third lies before it", CREATE, "look", 0, 1, 0, 4);
        bytes(Crypto.number(1001, 4), 0, 1, 0, 0);
        bytes(Crypto.number(1000, 4), 0, 1, 1, 0);
        delivers(0, 1, 2);
        due("the third waits no more", CREATED, "deliver", 1, 0);
        bytes(Crypto.number(2, 4), 0, 8, 0, 0);
        due("the second goes back to its client", RELAY, "deliver", 1, 0);
        bytes(Crypto.number(1, 4), 0, 9, 0, 0);
        call("settle", 200);
        is(OPEN, "state", 2);
        is(OPEN, "told", 1, 1, 0);
        due("streams are where the circuit ends", 1, "has", 0, 1);
        is(1, "has", 1, 1);
    }

    // ---- DESTROY and CREATED

    /**
     * Terms: "DESTROY: the entry that came from there with that number, else the one that goes on there
     * with it: a DESTROY goes to its other side, if there is one, and the entry is gone."
     */
    void destroyFromEachSide() {
        open(1);
        is(1, "destroy", 0);
        is(DESTROY, "deliver", 8, 0);
        is(0, "has", 0, 0);
        due("there is no other side", 0, "settle", 200);
        open(3);
        is(1, "destroy", 0);
        is(DESTROY, "deliver", 8, 0);
        is(0, "waiting", 0, 8);
        bytes(new byte[] {0, 0, 3, (byte) 232, DESTROY, 0}, 0, 1, 0, 0);
        is(DESTROY, "deliver", 0, 1);
        is(0, "waiting", 1, 0);
        is(1, "waiting", 1, 2);
    }

    /** Terms: "else the one that goes on there with it". */
    void destroyFromWhereItGoesOn() {
        open(3);
        call("stream", 0, ECHO);
        is(3, "settle", 3);
        call("alter", 2, 1, 4, RELAY ^ DESTROY);
        is(DESTROY, "deliver", 2, 1);
        is(0, "has", 1, 0);
        is(0, "waiting", 1, 2);
        is(DESTROY, "deliver", 1, 0);
        is(0, "has", 0, 0);
        is(0, "waiting", 0, 1);
        is(DESTROY, "deliver", 0, 8);
        is(GONE, "state", 0);
        is(1, "has", 2, 0);
    }

    /**
     * Terms: "the entry that came from there with that number, else the one that goes on there with it".
     * Relay 0 goes on to relay 1 by 1000, and relay 1 to relay 0 by 1000.
     */
    void sameNumberOnBothSides() {
        nodes(2, 1);
        call("circuit", 8, 0, 1, NONE);
        call("circuit", 8, 1, 0, NONE);
        call("settle", 200);
        is(OPEN, "state", 0);
        is(OPEN, "state", 1);
        call("stream", 0, ECHO);
        due("BEGIN, BEGIN, CONNECTED, DESTROY", 4, "settle", 200);
        due("CONNECTED was taken for one that came", 1, "has", 0, 0);
        due("and so was DESTROY", 1, "has", 1, 0);
        due("the client hears nothing", WAITING, "told", 0, 1, 0);
        anew();
        nodes(2, 1);
        call("circuit", 8, 0, 1, NONE);
        call("settle", 200);
        call("circuit", 8, 1, 0, NONE);
        call("settle", 200);
        is(2, "has", 0, 0);
        call("destroy", 1);
        call("settle", 200);
        is(OPEN, "state", 0);
        due("DESTROY was for the one that came", 1, "has", 0, 0);
    }

    /** Terms: "CREATED for an entry that goes on there with that number, and waits". Else it is left out. */
    void createdThatNobodyWaitsFor() {
        open(2);
        call("stream", 0, ECHO);
        is(2, "settle", 2);
        call("alter", 1, 0, 4, RELAY ^ CREATED);
        leftOut(CREATED, 1, 0);
        due("it waits no more", 0, "waiting", 0, 8);
        building(2);
        is(4, "settle", 4);
        call("alter", 1, 0, 3, 1);
        leftOut(CREATED, 1, 0);
        due("of another number", 0, "waiting", 0, 8);
        building(2);
        call("alter", 8, 0, 4, CREATE ^ CREATED);
        leftOut(CREATED, 8, 0);
        due("of no entry", 0, "settle", 200);
    }

    /** Terms: "it waits no more, and EXTENDED with the first 64 bytes goes back." */
    void firstBytesOfCreated() {
        int[] at = {5, 68, 69, 139};
        for (int one : at) {
            building(2);
            is(4, "settle", 4);
            call("alter", 1, 0, one, 1);
            call("settle", 200);
            due("the 65th is left out", one < 69 ? GONE : OPEN, "state", 0);
        }
    }

    /** Terms: "a DESTROY goes to its other side, if there is one, and the entry is gone." While it waits, too. */
    void destroyWhileItWaits() {
        building(2);
        is(3, "settle", 3);
        due("CREATE is on its way", 1, "waiting", 0, 1);
        call("destroy", 0);
        is(DESTROY, "deliver", 8, 0);
        due("it follows CREATE", 2, "waiting", 0, 1);
        is(0, "has", 0, 0);
        delivers(0, 1, 1);
        is(1, "has", 1, 0);
        delivers(0, 1, 1);
        is(0, "has", 1, 0);
        due("CREATED of nobody", CREATED, "deliver", 1, 0);
        due("is left out", 0, "settle", 200);
    }

    // ---- RELAY

    /**
     * Terms: "otherwise it goes on (with its number there), or, when it does not go on or waits, the
     * entry is DESTROYED: a DESTROY goes to each side, and it is gone."
     */
    void unknownPayloads() {
        streaming(1, ECHO);
        pushes(0, 1, 1);
        call("alter", 8, 0, 139, 1);
        is(RELAY, "deliver", 8, 0);
        destroyed();
        streaming(2, ECHO);
        pushes(0, 1, 1);
        call("alter", 8, 0, 139, 1);
        is(RELAY, "deliver", 8, 0);
        due("the first goes on", 1, "has", 0, 0);
        bytes(new byte[] {0, 0, 3, (byte) 232, RELAY}, 0, 1, 0, 0);
        is(RELAY, "deliver", 0, 1);
        due("the last does not", 0, "has", 1, 0);
        is(DESTROY, "look", 1, 0, 0, 4);
    }

    /**
     * Terms: "Else for one that goes on there, and does not wait: the backward cipher is laid over it, and
     * it goes back."
     */
    void relayCellWhileItWaits() {
        building(2);
        is(4, "settle", 4);
        call("alter", 1, 0, 4, CREATED ^ RELAY);
        leftOut(RELAY, 1, 0);
        is(0, "waiting", 0, 8);
        is(1, "has", 0, 0);
        call("destroy", 0);
        call("alter", 8, 0, 4, DESTROY ^ RELAY);
        is(RELAY, "deliver", 8, 0);
        due("is not recognized: DESTROY to one side", DESTROY, "look", 0, 8, 0, 4);
        due("and to the other", DESTROY, "look", 0, 1, 0, 4);
        is(0, "has", 0, 0);
    }

    /** Terms: "Else for one that goes on there, and does not wait". While it waits its cipher does not go on. */
    void cipherWhileItWaits() {
        building(2);
        is(1, "circuit", 8, 0, 1, NONE);
        delivers(8, 0, 2);
        delivers(0, 8, 2);
        delivers(8, 0, 2);
        delivers(0, 1, 2);
        is(2, "waiting", 1, 0);
        call("alter", 1, 0, 4, CREATED ^ RELAY);
        call("alter", 1, 0, 3, 1000 ^ 1001);
        leftOut(RELAY, 1, 0);
        is(CREATED, "deliver", 1, 0);
        is(RELAY, "deliver", 0, 8);
        is(OPEN, "state", 1);
        is(BUILDING, "state", 0);
    }

    /** Terms: "All else is left out." */
    void allElse() {
        for (int command : new int[] {0, 1, 2, 5, 9, 12, 255}) {
            streaming(1, ECHO);
            pushes(0, 1, 1);
            call("alter", 8, 0, 4, RELAY ^ command);
            leftOut(command, 8, 0);
        }
        streaming(1, ECHO);
        pushes(0, 1, 1);
        call("alter", 8, 0, 3, 2);
        leftOut(RELAY, 8, 0);
        streaming(1, ECHO);
        pushes(0, 1, 1);
        call("alter", 8, 0, 3, 2);
        call("alter", 8, 0, 4, RELAY ^ DESTROY);
        leftOut(DESTROY, 8, 0);
    }

    // ---- EXTEND

    /** Relay 0 finds EXTEND of this length to this relay. */
    private void extend(int length, int relay) {
        open(1);
        call("stream", 0, ECHO);
        forge(EXTEND, 0, length, relay);
        is(RELAY, "deliver", 8, 0);
    }

    private void extended(int relay) {
        is(1, "has", 0, 0);
        bytes(new byte[] {0, 0, 3, (byte) 232, CREATE, 0, 0}, 0, relay, 0, 0);
        is(0, "waiting", 0, 8);
    }

    /** Terms: "DONE are: EXTEND with a length of 69, data being a relay's number and 68 bytes". */
    void lengthOfExtend() {
        extend(69, 1);
        extended(1);
        for (int length : new int[] {0, 1, 68, 70, 124}) {
            extend(length, 1);
            destroyed();
            is(0, "waiting", 0, 1);
        }
    }

    /** Terms: "there being that relay". */
    void extendToNoRelay() {
        extend(69, 2);
        extended(2);
        for (int relay : new int[] {3, 5, 6, 8, 9, 255}) {
            extend(69, relay);
            destroyed();
        }
    }

    /** Terms: "there being that relay". The sixth is the last. */
    void extendToTheSixthRelay() {
        for (int relay = 5; relay <= 6; relay++) {
            open(1);
            call("relay", 4);
            call("relay", 5);
            call("relay", 6);
            call("stream", 0, ECHO);
            forge(EXTEND, 0, 69, relay);
            delivers(8, 0, 1);
            is(relay == 5 ? 1 : 0, "has", 0, 0);
        }
    }

    /** Terms: "not this one". */
    void extendToItself() {
        extend(69, 0);
        destroyed();
        due("only DESTROY", 1, "settle", 200);
    }

    /** Terms: "and the entry not going on yet". */
    void extendTwice() {
        open(2);
        call("stream", 0, ECHO);
        forge(EXTEND, 0, 69, 2);
        delivers(8, 0, 1);
        due("it goes on already", 0, "has", 0, 0);
        due("to one side", DESTROY, "look", 0, 8, 0, 4);
        due("to the other", DESTROY, "look", 0, 1, 0, 4);
        is(0, "waiting", 0, 2);
        open(1);
        call("stream", 0, ECHO);
        forge(EXTEND, 0, 69, 2);
        delivers(8, 0, 1);
        call("stream", 0, ECHO);
        forge(EXTEND, 0, 69, 2);
        delivers(8, 0, 1);
        due("while it waits", 0, "has", 0, 0);
        is(2, "waiting", 0, 2);
        is(DESTROY, "look", 0, 2, 1, 4);
    }

    /**
     * Terms: "it goes on there with the next number of this relay (1000, 1001, ..), waits, and CREATE with
     * the 68 bytes goes there."
     */
    void numbersOfARelay() {
        nodes(3, 1);
        int[][] next = {{0, 1}, {0, 2}, {0, 1}, {1, 0}, {1, 2}};
        int[] numbers = {1000, 1001, 1002, 1000, 1001};
        for (int i = 0; i < next.length; i++) {
            is(i, "circuit", 8, next[i][0], next[i][1], NONE);
            is(3, "settle", 3);
            bytes(Crypto.number(numbers[i], 4), next[i][0], next[i][1], 0, 0);
            is(CREATE, "look", next[i][0], next[i][1], 0, 4);
            is(3, "settle", 200);
            is(OPEN, "state", i);
            if (i == 1) {
                due("numbers are not used again", 1, "destroy", 0);
                call("settle", 200);
            }
        }
    }

    /**
     * Terms: "it goes on there with the next number of this relay (1000, 1001, ..)". One that is refused
     * takes none.
     */
    void refusedExtendTakesNoNumber() {
        extend(68, 1);
        destroyed();
        call("drop", 0, 8);
        is(1, "circuit", 8, 0, 1, NONE);
        is(3, "settle", 3);
        bytes(Crypto.number(1000, 4), 0, 1, 0, 0);
    }

    // ---- BEGIN

    /** Terms: "BEGIN with a length of 1 of a stream that is not there". */
    void lengthOfBegin() {
        for (int length : new int[] {0, 2, 124}) {
            open(1);
            call("stream", 0, ECHO);
            forge(BEGIN, 1, length, 1, 1);
            delivers(8, 0, 1);
            destroyed();
        }
        open(1);
        call("stream", 0, ECHO);
        forge(BEGIN, 1, 1, ECHO, 1);
        delivers(8, 0, 1);
        is(1, "has", 0, 1);
    }

    /**
     * Terms: "and the data is 1 (ECHO) or 2 (KEEP), the stream is there, with a window of 4, and CONNECTED
     * (without data, of that stream) is sent; otherwise END (and the entry stays)."
     */
    void services() {
        for (int port : new int[] {0, 1, 2, 3, 254, 255}) {
            boolean there = port == ECHO || port == KEEP;
            open(1);
            call("stream", 0, port);
            delivers(8, 0, 1);
            is(there ? 1 : 0, "has", 0, 1);
            is(1, "has", 0, 0);
            lookAll(0, 8, 0);
            byte[] bare = twin.bare(0, 8, twin.layers(0, 8, 0));
            Arrays.fill(bare, 5, 9, (byte) 0);
            DUE.yes("without data", Arrays.equals(bare, Twin.payload(there ? CONNECTED : END, 1, 0)));
            delivers(0, 8, 1);
            is(there ? OPEN : GONE, "told", 0, 1, 0);
            is(OPEN, "state", 0);
        }
    }

    /** Terms: "when there are less than 4". */
    void fifthStream() {
        open(1);
        for (int i = 0; i < 4; i++) {
            call("stream", 0, ECHO);
        }
        call("settle", 200);
        is(4, "has", 0, 1);
        forged(BEGIN, 5, 1, KEEP);
        due("no more than four", 4, "has", 0, 1);
        due("the entry stays", 1, "has", 0, 0);
        lookAll(0, 8, 0);
        due("END comes", RELAY, "deliver", 0, 8);
        is(OPEN, "state", 0);
        forged(END, 2, 0);
        is(3, "has", 0, 1);
        forged(BEGIN, 5, 1, KEEP);
        due("one has gone, one has come", 4, "has", 0, 1);
    }

    /** Terms: "its streams (at most 4)." Each entry has its own. */
    void fourOfEachEntry() {
        open(1);
        call("circuit", 8, 0, NONE, NONE);
        call("settle", 200);
        for (int i = 0; i < 8; i++) {
            is(i / 2 + 1, "stream", i % 2, 1 + i % 2);
            call("settle", 200);
            is(i + 1, "has", 0, 1);
            is(OPEN, "told", i % 2, i / 2 + 1, 0);
        }
    }

    /** Terms: "(BEGIN of a stream that is there, too), DESTROY the entry." */
    void beginOfAStreamThatIsThere() {
        streaming(1, ECHO);
        forged(BEGIN, 1, 1, ECHO);
        destroyed();
        is(DESTROY, "deliver", 0, 8);
        is(GONE, "state", 0);
    }

    /** Terms: "(Numbers of streams are 0 .. 65535 here, as BEGIN tells them.)" */
    void streamsOfAnyNumber() {
        for (int number : new int[] {0, 5, 255, 256, 65535}) {
            open(1);
            call("stream", 0, ECHO);
            forge(BEGIN, number, 1, KEEP);
            delivers(8, 0, 1);
            is(1, "has", 0, 1);
            due("the client knows nothing of it", RELAY, "deliver", 0, 8);
            is(WAITING, "told", 0, 1, 0);
            is(OPEN, "state", 0);
            forged(DATA, number, 3, 7, 8, 9);
            is(3, "has", 0, 2);
            is(9, "kept", 0, 2);
            forged(END, number, 0);
            is(0, "has", 0, 1);
        }
    }

    /** Terms: "(Numbers of streams are 0 .. 65535 here, as BEGIN tells them.)" Both bytes tell them apart. */
    void streamsApart() {
        streaming(1, KEEP);
        forged(BEGIN, 257, 1, KEEP);
        forged(BEGIN, 256, 1, KEEP);
        forged(BEGIN, 0, 1, KEEP);
        is(4, "has", 0, 1);
        forged(DATA, 513, 1, 9);
        due("none of them", 0, "has", 0, 2);
        forged(END, 257, 0);
        is(3, "has", 0, 1);
        forged(DATA, 257, 1, 9);
        due("there no more", 0, "has", 0, 2);
        forged(DATA, 1, 1, 8);
        is(8, "kept", 0, 0);
    }

    // ---- DATA, END, SENDME

    /**
     * Terms: "Of a stream that is there: DATA (also without data): if it is the second, fourth, .. one SENDME
     * is sent; then KEEP keeps the data".
     */
    void secondAndFourth() {
        streaming(1, KEEP);
        int[] cells = {0, 1, 1, 2, 2, 3};
        for (int i = 0; i < 6; i++) {
            forged(DATA, 1, 1, i);
            is(cells[i], "waiting", 0, 8);
        }
        is(6, "has", 0, 2);
    }

    /** Terms: "if it is the second, fourth, .. one SENDME is sent". Each stream counts by itself. */
    void eachStreamCounts() {
        open(1);
        call("stream", 0, KEEP);
        call("stream", 0, KEEP);
        call("settle", 200);
        pushes(0, 1, 1);
        pushes(0, 2, 1);
        is(2, "settle", 200);
        pushes(0, 2, 1);
        is(2, "settle", 200);
        is(4, "told", 0, 2, 1);
        is(3, "told", 0, 1, 1);
    }

    /** Terms: "DATA (also without data)". With KEEP it counts and keeps nothing. */
    void keepWithoutData() {
        streaming(1, KEEP);
        forged(DATA, 1, 0);
        is(0, "waiting", 0, 8);
        forged(DATA, 1, 0);
        due("it was the second", 1, "waiting", 0, 8);
        is(0, "has", 0, 2);
    }

    /** Terms: "DATA (also without data)". With ECHO it counts, comes back, and takes its part of the window. */
    void echoWithoutData() {
        streaming(1, ECHO);
        forged(DATA, 1, 0);
        due("it is sent back", 1, "waiting", 0, 8);
        forged(DATA, 1, 0);
        due("SENDME and DATA", 3, "waiting", 0, 8);
        forged(DATA, 1, 0);
        forged(DATA, 1, 0);
        is(6, "waiting", 0, 8);
        forged(DATA, 1, 0);
        due("the window is 0", 6, "waiting", 0, 8);
    }

    /** DATA of this length with a first byte; what the client sends itself before it is put right. */
    private void data(int length, int b) {
        if (call("waiting", 8, 0) > 0) {
            forge(SENDME, 1, 0);
            delivers(8, 0, 1);
        }
        forged(DATA, 1, length, b);
    }

    private void sixteenTimes() {
        streaming(1, KEEP);
        for (int i = 0; i < 16; i++) {
            data(124, i);
            call("deliver", 0, 8);
        }
        due("16 times 124", 1984, "has", 0, 2);
    }

    /** Terms: "KEEP keeps the data (a relay keeps 2000 bytes at most, what is more is left out)". */
    void keepsSomeOfTheLast() {
        sixteenTimes();
        data(124, 77);
        is(2000, "has", 0, 2);
        is(77, "kept", 0, 1984);
        is(0, "kept", 0, 1999);
        is(NONE, "kept", 0, 2000);
        data(124, 78);
        due("nothing of the next", 2000, "has", 0, 2);
        due("which is DATA all the same", 1, "waiting", 0, 8);
    }

    /** Terms: "(a relay keeps 2000 bytes at most, what is more is left out)". Just so many, and one more. */
    void keepsJustSoMany() {
        sixteenTimes();
        data(15, 55);
        is(1999, "has", 0, 2);
        is(NONE, "kept", 0, 1999);
        data(1, 66);
        is(2000, "has", 0, 2);
        is(66, "kept", 0, 1999);
        data(1, 67);
        is(2000, "has", 0, 2);
        is(66, "kept", 0, 1999);
        is(NONE, "kept", 0, 2000);
        is(1, "has", 0, 1);
    }

    /** Terms: "ECHO, if its window is above 0, sends DATA with them, and the window is one less." */
    void windowOfEcho() {
        streaming(1, ECHO);
        int[] cells = {1, 3, 4, 6, 6, 7};
        for (int i = 0; i < 6; i++) {
            forged(DATA, 1, 1, i);
            due("DATA " + (i + 1), cells[i], "waiting", 0, 8);
        }
    }

    /** Terms: "SENDME: its window is 2 more." */
    void sendmeAtARelay() {
        streaming(1, ECHO);
        for (int i = 0; i < 4; i++) {
            forged(DATA, 1, 1, i);
        }
        is(6, "waiting", 0, 8);
        for (int i = 0; i < 6; i++) {
            is(1, "drop", 0, 8);
        }
        forged(SENDME, 1, 0);
        int[] cells = {1, 3, 3, 4};
        for (int i = 0; i < 4; i++) {
            forged(DATA, 1, 1, i);
            due("DATA " + (i + 5), cells[i], "waiting", 0, 8);
        }
        forged(SENDME, 1, 0);
        due("SENDME has no answer", 4, "waiting", 0, 8);
    }

    /** Terms: "END: it is there no more." One of the same number begins anew. */
    void endAtARelay() {
        streaming(1, KEEP);
        forged(DATA, 1, 1, 1);
        forged(END, 1, 0);
        is(0, "has", 0, 1);
        is(0, "waiting", 0, 8);
        forged(BEGIN, 1, 1, KEEP);
        is(1, "has", 0, 1);
        due("CONNECTED", 1, "waiting", 0, 8);
        forged(DATA, 1, 1, 1);
        due("it is the first again", 1, "waiting", 0, 8);
        forged(DATA, 1, 1, 1);
        is(2, "waiting", 0, 8);
    }

    /** Terms: "DATA, END, SENDME of streams that are not there are left out". */
    void leftOutAtARelay() {
        for (int command : new int[] {DATA, END, SENDME}) {
            for (int stream : new int[] {0, 2, 257, 65535}) {
                streaming(1, KEEP);
                forged(command, stream, 1, 1);
                is(0, "waiting", 0, 8);
                is(1, "has", 0, 0);
                is(1, "has", 0, 1);
                is(0, "has", 0, 2);
            }
        }
    }

    /**
     * Terms: "other commands, EXTEND and BEGIN that are not as told (BEGIN of a stream that is there,
     * too), DESTROY the entry."
     */
    void otherCommandsAtARelay() {
        for (int command : new int[] {0, CONNECTED, 6, 13, EXTENDED, 16, 128, 255}) {
            streaming(1, ECHO);
            forged(command, 1, 0);
            destroyed();
        }
    }

    // ---- places that are used again

    /** Terms: "the stream is there, with a window of 4". What one that has ended left behind is not the next one's. */
    void placesOfStreams() {
        open(1);
        call("stream", 0, ECHO);
        call("stream", 0, ECHO);
        call("settle", 200);
        pushes(0, 1, 1);
        delivers(8, 0, 1);
        call("close", 0, 1);
        delivers(8, 0, 1);
        is(1, "waiting", 0, 8);
        pushes(0, 2, 4);
        delivers(8, 0, 4);
        due("a whole window, and SENDME twice", 7, "waiting", 0, 8);
        call("stream", 0, KEEP);
        delivers(8, 0, 1);
        due("CONNECTED", 8, "waiting", 0, 8);
        due("all come, and SENDME twice", 10, "settle", 200);
        pushes(0, 3, 1);
        call("settle", 200);
        due("no SENDME for its first", 3, "told", 0, 3, 1);
    }

    /** Terms: "the stream is there, with a window of 4". Nor is it the one's whose place it was. */
    void windowsOfStreams() {
        open(1);
        call("stream", 0, ECHO);
        call("stream", 0, ECHO);
        call("settle", 200);
        pushes(0, 1, 4);
        delivers(8, 0, 4);
        call("close", 0, 1);
        delivers(8, 0, 1);
        is(6, "waiting", 0, 8);
        pushes(0, 2, 1);
        delivers(8, 0, 1);
        due("its window is its own", 7, "waiting", 0, 8);
    }

    /** Terms: "END: it is there no more." The others keep what they are and how many DATA they had. */
    void othersStayAsTheyAre() {
        open(1);
        call("stream", 0, ECHO);
        call("stream", 0, KEEP);
        call("settle", 200);
        pushes(0, 1, 1);
        call("settle", 200);
        is(1, "close", 0, 1);
        call("settle", 200);
        is(1, "has", 0, 1);
        int[] windows = {3, 4, 3, 4};
        for (int i = 0; i < 4; i++) {
            pushes(0, 2, 1);
            call("settle", 200);
            due("KEEP keeps", i + 1, "has", 0, 2);
            due("and sends nothing back", 0, "told", 0, 2, 3);
            due("SENDME for the second and the fourth", windows[i], "told", 0, 2, 1);
        }
    }

    /** Terms: "there is a new entry". One that comes after others have gone has nothing of theirs. */
    void placesOfEntries() {
        nodes(2, 1);
        for (int i = 0; i < 6; i++) {
            is(i, "circuit", 8, i % 2, 1 - i % 2, NONE);
            call("settle", 200);
            is(OPEN, "state", i);
            is(1, "stream", i, KEEP);
            call("settle", 200);
            pushes(i, 1, 1);
            call("settle", 200);
            due("its first DATA has no SENDME", 3, "told", i, 1, 1);
            is(1, "has", 1 - i % 2, 1);
            is(1, "destroy", i);
            call("settle", 200);
            is(0, "has", 0, 0);
            is(0, "has", 1, 0);
            is(0, "has", 1 - i % 2, 1);
        }
    }
}
