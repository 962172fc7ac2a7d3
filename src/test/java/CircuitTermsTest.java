/**
 * What "Terms" says of circuits and streams of clients, at its boundaries. What honest relays never
 * send comes from cells that are altered until a key recognizes what the sentence is about.
 */
public final class CircuitTermsTest extends Bench {
    public static void main(String[] args) throws ReflectiveOperationException {
        runAll(CircuitTermsTest.class);
    }

    /** The circuit is gone with its streams, and DESTROY lies on the way to the first relay. */
    private void destroyed() {
        is(GONE, "state", 0);
        is(1, "waiting", 8, 0);
        bytes(new byte[] {0, 0, 0, 1, DESTROY, 0, 0}, 8, 0, 0, 0);
    }

    // ---- circuits

    /** Terms: "goes over 1 to 3 different relays; it is BUILDING, OPEN or GONE." */
    void oneToThreeRelays() {
        for (int hops = 1; hops <= 3; hops++) {
            building(hops);
            is(BUILDING, "state", 0);
            int cells = hops * (hops + 1);
            is(cells - 1, "settle", cells - 1);
            due("the last answer is missing", BUILDING, "state", 0);
            is(1, "settle", 1);
            is(OPEN, "state", 0);
            is(hops, "hops", 0);
            due("no EXTEND to a hop that is not to come", 0, "settle", 200);
            is(1, "has", hops - 1, 0);
        }
    }

    /**
     * Terms: "Its number on its link to the first relay is 1, 2, .. as that client made them. It begins with
     * CREATE."
     */
    void numbersOfCircuits() {
        nodes(2, 2);
        int[] clients = {8, 9, 8, 8, 9, 8};
        int[] relays = {0, 0, 1, 0, 1, 0};
        int[] cells = {0, 0, 0, 1, 0, 2};
        int[] numbers = {1, 1, 2, 3, 2, 4};
        is(NONE, "circuit", 8, 2, NONE, NONE);
        for (int i = 0; i < 6; i++) {
            is(i, "circuit", clients[i], relays[i], NONE, NONE);
            bytes(Crypto.number(numbers[i], 4), clients[i], relays[i], cells[i], 0);
            is(CREATE, "look", clients[i], relays[i], cells[i], 4);
            is(cells[i] + 1, "waiting", clients[i], relays[i]);
        }
    }

    /**
     * Terms: "With the right answer of a hop it has the keys of that; then, with hops still to come, it
     * sends EXTEND to the last hop that it has, otherwise it is OPEN." Every byte of it.
     */
    void cellsOfBuilding() {
        building(3);
        call("settle", 2);
        lookAll(8, 0, 0);
        delivers(8, 0, 1);
        lookAll(0, 1, 0);
        delivers(0, 1, 1);
        lookAll(1, 0, 0);
        building(3);
        call("settle", 5);
        lookAll(0, 8, 0);
        delivers(0, 8, 1);
        lookAll(8, 0, 0);
        delivers(8, 0, 1);
        lookAll(0, 1, 0);
        building(3);
        call("settle", 10);
        lookAll(1, 0, 0);
        delivers(1, 0, 1);
        lookAll(0, 8, 0);
        call("destroy", 0);
        lookAll(8, 0, 0);
    }

    /**
     * Terms: "To send a payload to a hop: made with that one's forward digest key, the forward ciphers of
     * it and of all before it laid over it, the farthest first." Every byte of it.
     */
    void cellsOfThreeHops() {
        open(3);
        call("stream", 0, KEEP);
        lookAll(8, 0, 0);
        delivers(8, 0, 1);
        lookAll(0, 1, 0);
        delivers(0, 1, 1);
        lookAll(1, 2, 0);
        open(3);
        call("stream", 0, KEEP);
        call("settle", 3);
        lookAll(2, 1, 0);
        delivers(2, 1, 1);
        lookAll(1, 0, 0);
        delivers(1, 0, 1);
        lookAll(0, 8, 0);
    }

    /**
     * Terms: "A PAYLOAD of RELAY has a command (1: BEGIN 1, DATA 2, END 3, CONNECTED 4, SENDME 5, EXTEND
     * 14, EXTENDED 15)".
     */
    void cellsOfStreams() {
        open(1);
        call("stream", 0, ECHO);
        lookAll(8, 0, 0);
        delivers(8, 0, 1);
        lookAll(0, 8, 0);
        delivers(0, 8, 1);
        pushes(0, 1, 1);
        lookAll(8, 0, 0);
        streaming(1, ECHO);
        pushes(0, 1, 2);
        delivers(8, 0, 2);
        lookAll(0, 8, 1);
        lookAll(0, 8, 2);
        call("settle", 3);
        lookAll(8, 0, 0);
        open(1);
        call("stream", 0, 3);
        delivers(8, 0, 1);
        lookAll(0, 8, 0);
        call("stream", 0, ECHO);
        delivers(8, 0, 1);
        call("close", 0, 2);
        lookAll(8, 0, 0);
    }

    // ---- cells that are not the circuit's, or not now

    /**
     * Terms: "Of a cell from a circuit's first relay with its number, when it is not gone". Those of one
     * that is gone.
     */
    void cellsOfAGoneCircuit() {
        streaming(1, ECHO);
        pushes(0, 1, 2);
        delivers(8, 0, 2);
        is(1, "destroy", 0);
        for (int i = 0; i < 3; i++) {
            leftOut(RELAY, 0, 8);
        }
        is(GONE, "state", 0);
        due("as it was then", 2, "told", 0, 1, 1);
        is(0, "told", 0, 1, 3);
        due("only the client's own DESTROY", 1, "waiting", 8, 0);
        building(1);
        delivers(8, 0, 1);
        is(1, "destroy", 0);
        leftOut(CREATED, 0, 8);
        is(0, "hops", 0);
        is(GONE, "state", 0);
        building(1);
        call("alter", 8, 0, 5, 1);
        delivers(8, 0, 1);
        is(1, "destroy", 0);
        leftOut(DESTROY, 0, 8);
    }

    /**
     * Terms: "Of a cell from a circuit's first relay with its number". Those from another node, or of
     * another number.
     */
    void cellsOfNoCircuit() {
        nodes(2, 2);
        call("circuit", 8, 0, NONE, NONE);
        call("circuit", 9, 1, NONE, NONE);
        delivers(9, 1, 1);
        delivers(8, 0, 1);
        call("alter", 0, 8, 3, 2);
        leftOut(CREATED, 0, 8);
        is(BUILDING, "state", 0);
        call("alter", 1, 9, 0, 128);
        leftOut(CREATED, 1, 9);
        is(BUILDING, "state", 1);
        call("circuit", 8, 1, NONE, NONE);
        delivers(8, 1, 1);
        call("alter", 1, 8, 3, 2 ^ 1);
        due("circuit 1 of client 8 goes over relay 0", 1, "look", 1, 8, 0, 3);
        leftOut(CREATED, 1, 8);
        is(BUILDING, "state", 0);
        is(BUILDING, "state", 2);
    }

    /** Terms: "CREATED, with no hop as yet". With one it is left out. */
    void createdWithAHop() {
        streaming(2, ECHO);
        pushes(0, 1, 1);
        call("settle", 3);
        call("alter", 0, 8, 4, RELAY ^ CREATED);
        leftOut(CREATED, 0, 8);
        is(OPEN, "state", 0);
        building(2);
        is(5, "settle", 5);
        call("alter", 0, 8, 4, RELAY ^ CREATED);
        leftOut(CREATED, 0, 8);
        is(BUILDING, "state", 0);
        is(1, "hops", 0);
    }

    /** Terms: "RELAY, with a hop". Without one it is left out. */
    void relayWithoutAHop() {
        building(1);
        delivers(8, 0, 1);
        call("alter", 0, 8, 4, CREATED ^ RELAY);
        leftOut(RELAY, 0, 8);
        is(BUILDING, "state", 0);
        is(0, "hops", 0);
    }

    /** Terms: "All other cells are left out." */
    void otherCellsAtAClient() {
        for (int command : new int[] {0, 1, 2, 5, CREATE, 12, 255}) {
            streaming(1, ECHO);
            pushes(0, 1, 1);
            delivers(8, 0, 1);
            call("alter", 0, 8, 4, RELAY ^ command);
            leftOut(command, 0, 8);
            is(OPEN, "state", 0);
        }
    }

    // ---- what destroys a circuit

    /**
     * Terms: "CREATED, with no hop as yet: an answer that is not right DESTROYS it (a DESTROY goes to the
     * first relay, it is GONE)."
     */
    void answerThatIsNotRight() {
        building(2);
        delivers(8, 0, 1);
        call("alter", 0, 8, 68, 1);
        delivers(0, 8, 1);
        destroyed();
        is(0, "hops", 0);
    }

    /** Terms: "DESTROY: it is GONE." Nothing is sent for that. */
    void destroyAtAClient() {
        streaming(1, ECHO);
        call("stream", 0, KEEP);
        pushes(0, 1, 1);
        call("drop", 8, 0);
        delivers(8, 0, 1);
        is(DESTROY, "deliver", 0, 8);
        is(GONE, "state", 0);
        is(0, "waiting", 8, 0);
        is(GONE, "told", 0, 1, 0);
        is(GONE, "told", 0, 2, 0);
    }

    /** Terms: "if none does, or it is not of the last hop that there is, it is DESTROYED." None does. */
    void payloadOfNoHop() {
        for (int hops = 1; hops <= 3; hops++) {
            open(hops);
            call("stream", 0, ECHO);
            call("settle", 2 * hops - 1);
            call("alter", 0, 8, 139, 1);
            delivers(0, 8, 1);
            destroyed();
            is(GONE, "told", 0, 1, 0);
        }
    }

    /** Terms: "or it is not of the last hop that there is, it is DESTROYED." */
    void payloadOfANearerHop() {
        for (int without = 1; without <= 2; without++) {
            open(3);
            call("stream", 0, ECHO);
            call("settle", 5);
            var layers = twin.layers(0, 8, without);
            byte[] payload = Twin.payload(CONNECTED, 1, 0);
            System.arraycopy(layers.get(layers.size() - 1).due(payload), 0, payload, 5, 4);
            twin.alterTo(0, 8, layers, payload);
            delivers(0, 8, 1);
            destroyed();
        }
    }

    /** EXTENDED of this length comes to a circuit that is building. */
    private void extended(int length) {
        building(2);
        is(5, "settle", 5);
        byte[] payload = twin.bare(0, 8, twin.layers(0, 8, 0));
        payload[10] = (byte) length;
        twin.forge(0, 8, payload);
        delivers(0, 8, 1);
    }

    /** Terms: "EXTENDED (length 64) while it is BUILDING: as CREATED." */
    void lengthOfExtended() {
        extended(64);
        is(OPEN, "state", 0);
        is(2, "hops", 0);
        for (int length : new int[] {0, 63, 65, 124}) {
            extended(length);
            destroyed();
            is(1, "hops", 0);
        }
    }

    /** Terms: "other commands (EXTENDED, too, when OPEN or of another length) DESTROY it." */
    void extendedWhenOpen() {
        for (int length : new int[] {0, 63, 64, 65}) {
            streaming(1, ECHO);
            answered(EXTENDED, 1, length);
            destroyed();
            is(1, "hops", 0);
        }
    }

    /** Terms: "other commands (EXTENDED, too, when OPEN or of another length) DESTROY it." */
    void otherCommandsAtAClient() {
        for (int command : new int[] {0, BEGIN, 6, 13, EXTEND, 16, 128, 255}) {
            streaming(1, ECHO);
            answered(command, 1, command == EXTEND ? 69 : 1);
            destroyed();
            is(GONE, "told", 0, 1, 0);
        }
    }

    // ---- streams

    /** Terms: "STREAMS 1, 2, .. (at most 4 in all) of a circuit are WAITING at first, with a window of 4." */
    void fourStreams() {
        open(1);
        call("circuit", 8, 0, NONE, NONE);
        call("settle", 200);
        for (int i = 1; i <= 4; i++) {
            is(i, "stream", 0, ECHO);
            is(WAITING, "told", 0, i, 0);
            is(4, "told", 0, i, 1);
            is(0, "told", 0, i, 2);
            is(0, "told", 0, i, 3);
        }
        is(NONE, "stream", 0, ECHO);
        due("each circuit has its own", 1, "stream", 1, ECHO);
    }

    /** Terms: "(at most 4 in all)". Those that are gone count. */
    void fourStreamsWithThoseThatAreGone() {
        open(1);
        for (int i = 1; i <= 4; i++) {
            is(i, "stream", 0, ECHO);
            is(1, "close", 0, i);
            call("settle", 200);
        }
        is(0, "has", 0, 1);
        refused("stream", 0, ECHO);
    }

    /** Terms: "CONNECTED: a stream that is WAITING is OPEN." */
    void connected() {
        open(1);
        call("stream", 0, ECHO);
        delivers(8, 0, 1);
        is(WAITING, "told", 0, 1, 0);
        delivers(0, 8, 1);
        is(OPEN, "told", 0, 1, 0);
        answered(CONNECTED, 1, 0);
        due("one that is OPEN stays so", OPEN, "told", 0, 1, 0);
        is(3, "told", 0, 1, 1);
        open(1);
        call("stream", 0, ECHO);
        call("close", 0, 1);
        delivers(8, 0, 2);
        delivers(0, 8, 1);
        due("one that is GONE stays so", GONE, "told", 0, 1, 0);
        is(OPEN, "state", 0);
    }

    /**
     * Terms: "DATA of an OPEN stream (also without data): if it is the second, fourth, .. one SENDME is
     * sent (to the last hop)".
     */
    void secondAndFourthAtAClient() {
        streaming(2, ECHO);
        int[] sendmes = {0, 1, 0, 1, 0, 1};
        for (int i = 0; i < 6; i++) {
            pushes(0, 1, 1);
            int cells = i % 2 == 0 ? 4 : 6;
            is(cells, "settle", cells);
            is(i + 1, "told", 0, 1, 3);
            due("DATA " + (i + 1), sendmes[i], "waiting", 8, 0);
            call("settle", 200);
        }
        is(OPEN, "state", 0);
    }

    /** Terms: "if it is the second, fourth, .. one SENDME is sent (to the last hop)". Each stream counts by itself. */
    void eachStreamCountsAtAClient() {
        streaming(1, ECHO);
        call("stream", 0, ECHO);
        call("settle", 200);
        pushes(0, 1, 1);
        pushes(0, 2, 1);
        due("DATA twice to and fro", 4, "settle", 200);
        pushes(0, 2, 1);
        due("DATA, SENDME and DATA, SENDME", 4, "settle", 200);
    }

    /** Terms: "DATA of an OPEN stream (also without data)". It counts, and keeps nothing. */
    void withoutDataAtAClient() {
        streaming(1, ECHO);
        answered(DATA, 1, 0);
        is(0, "waiting", 8, 0);
        pushes(0, 1, 1);
        delivers(8, 0, 1);
        twin.forge(0, 8, Twin.payload(DATA, 1, 0));
        delivers(0, 8, 1);
        due("it was the second", 1, "waiting", 8, 0);
        is(0, "told", 0, 1, 3);
        is(NONE, "got", 0, 1, 0);
    }

    /** DATA of this length to ECHO, and back; what the client sends itself before it is put right. */
    private void echoed(int length, int b) {
        if (call("waiting", 8, 0) > 0) {
            forge(SENDME, 1, 0);
            delivers(8, 0, 1);
        }
        forged(DATA, 1, length, b);
        call("deliver", 0, 8);
        call("deliver", 0, 8);
    }

    private void sixteenTimes() {
        streaming(1, ECHO);
        for (int i = 0; i < 16; i++) {
            echoed(124, i);
        }
        due("16 times 124", 1984, "told", 0, 1, 3);
    }

    /** Terms: "then the data are kept (2000 bytes at most, what is more is left out)." */
    void keepsSomeOfTheLast() {
        sixteenTimes();
        echoed(124, 55);
        is(2000, "told", 0, 1, 3);
        is(55, "got", 0, 1, 1984);
        is(0, "got", 0, 1, 1999);
        is(NONE, "got", 0, 1, 2000);
        echoed(124, 56);
        due("nothing of the next", 2000, "told", 0, 1, 3);
        due("which has its SENDME all the same", 1, "waiting", 8, 0);
    }

    /** Terms: "(2000 bytes at most, what is more is left out)". Just so many, and one more. */
    void keepsJustSoMany() {
        sixteenTimes();
        echoed(15, 55);
        is(1999, "told", 0, 1, 3);
        is(NONE, "got", 0, 1, 1999);
        echoed(1, 66);
        is(2000, "told", 0, 1, 3);
        is(66, "got", 0, 1, 1999);
        echoed(1, 67);
        is(2000, "told", 0, 1, 3);
        is(66, "got", 0, 1, 1999);
        is(NONE, "got", 0, 1, 2000);
        is(OPEN, "state", 0);
    }

    /** Terms: "END: the stream is GONE." One that waits, too. */
    void endAtAClient() {
        streaming(1, ECHO);
        answered(END, 1, 0);
        is(GONE, "told", 0, 1, 0);
        is(3, "told", 0, 1, 1);
        is(0, "waiting", 8, 0);
        is(OPEN, "state", 0);
        open(1);
        call("stream", 0, 9);
        call("settle", 200);
        due("one that waited", GONE, "told", 0, 1, 0);
        is(OPEN, "state", 0);
    }

    /** Terms: "SENDME: the window of one that is not GONE is 2 more." */
    void sendmeAtAClient() {
        streaming(1, KEEP);
        pushes(0, 1, 4);
        is(0, "told", 0, 1, 1);
        delivers(8, 0, 4);
        delivers(0, 8, 1);
        is(2, "told", 0, 1, 1);
        delivers(0, 8, 1);
        is(4, "told", 0, 1, 1);
        streaming(1, ECHO);
        answered(SENDME, 1, 0);
        due("above 4, too", 5, "told", 0, 1, 1);
        open(1);
        call("stream", 0, ECHO);
        delivers(8, 0, 1);
        twin.forge(0, 8, Twin.payload(SENDME, 1, 0));
        delivers(0, 8, 1);
        due("one that is WAITING", 6, "told", 0, 1, 1);
        is(WAITING, "told", 0, 1, 0);
        streaming(1, KEEP);
        pushes(0, 1, 2);
        delivers(8, 0, 2);
        is(1, "close", 0, 1);
        delivers(0, 8, 1);
        due("one that is GONE", 2, "told", 0, 1, 1);
    }

    /** Terms: "Of streams that are not as told these are left out". Streams that are not there. */
    void streamsThatAreNotThere() {
        for (int command : new int[] {DATA, END, CONNECTED, SENDME}) {
            for (int stream : new int[] {0, 2, 5, 256, 257, 65535}) {
                streaming(1, ECHO);
                answered(command, stream, 1);
                is(OPEN, "state", 0);
                is(OPEN, "told", 0, 1, 0);
                is(3, "told", 0, 1, 1);
                is(0, "told", 0, 1, 3);
                is(0, "waiting", 8, 0);
                is(NONE, "told", 0, 2, 0);
            }
        }
    }

    /** Terms: "Of streams that are not as told these are left out". DATA of one that waits, and of one that is gone. */
    void dataOfStreamsThatAreNotOpen() {
        open(1);
        call("stream", 0, ECHO);
        delivers(8, 0, 1);
        twin.forge(0, 8, Twin.payload(DATA, 1, 3));
        delivers(0, 8, 1);
        is(WAITING, "told", 0, 1, 0);
        is(0, "told", 0, 1, 3);
        is(OPEN, "state", 0);
        streaming(1, ECHO);
        pushes(0, 1, 3);
        delivers(8, 0, 3);
        is(1, "close", 0, 1);
        delivers(0, 8, 4);
        is(0, "told", 0, 1, 3);
        due("END, and no SENDME", 1, "waiting", 8, 0);
        is(OPEN, "state", 0);
    }

    /** Terms: "if it is the second, fourth, .. one SENDME is sent". DATA that was left out does not count. */
    void dataThatDoesNotCount() {
        open(1);
        call("stream", 0, ECHO);
        call("stream", 0, ECHO);
        call("stream", 0, ECHO);
        delivers(8, 0, 3);
        int[] commands = {DATA, CONNECTED, DATA};
        for (int command : commands) {
            twin.forge(0, 8, Twin.payload(command, 1, 1, (byte) 7));
            delivers(0, 8, 1);
        }
        is(1, "told", 0, 1, 3);
        due("it was the first", 0, "waiting", 8, 0);
    }

    /** Terms: "When a circuit is GONE all its streams are. (Of what is GONE all is told as it was then.)" */
    void whatIsGoneIsToldAsItWas() {
        streaming(1, ECHO);
        call("stream", 0, ECHO);
        pushes(0, 1, 1);
        call("settle", 200);
        call("put", 0, 1, 5);
        call("stream", 0, ECHO);
        is(1, "destroy", 0);
        int[][] want = {{GONE, 3, 1, 1}, {GONE, 4, 0, 0}, {GONE, 4, 0, 0}};
        for (int i = 0; i < 2; i++) {
            for (int stream = 1; stream <= 3; stream++) {
                for (int what = 0; what < 4; what++) {
                    is(want[stream - 1][what], "told", 0, stream, what);
                }
            }
            is(1, "got", 0, 1, 0);
            is(1, "hops", 0);
            call("settle", 200);
        }
    }
}
