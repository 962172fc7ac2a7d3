import java.util.List;

/**
 * The rules under "Terms" that honest nodes alone never come to: cells are altered until a key
 * recognizes what the rule is about. Every call goes to the Model too.
 */
public final class TermsTest {
    private static final int NONE = OnionNet.NONE;
    private static final Due DUE = new Due();

    private Twin twin = new Twin();

    private TermsTest() {
    }

    public static void main(String[] args) {
        new TermsTest().streamsOfAnyNumber();
        new TermsTest().beginOfAnotherLength();
        new TermsTest().beginOfAStreamThatIsThere();
        new TermsTest().fifthStream();
        new TermsTest().extendsThatAreNotAsTold();
        new TermsTest().otherCommandsAtARelay();
        new TermsTest().whatIsLeftOutAtARelay();
        new TermsTest().dataWithoutData();
        new TermsTest().windowOfEcho();
        new TermsTest().relayKeepsTwoThousand();
        new TermsTest().clientKeepsTwoThousand();
        new TermsTest().commandsThatDestroyAtAClient();
        new TermsTest().whatIsLeftOutAtAClient();
        new TermsTest().answerOfAnotherLength();
        new TermsTest().payloadOfANearerHop();
        new TermsTest().payloadsThatAreNotRecognized();
        new TermsTest().twelveEntries();
        new TermsTest().sameNumberTwice();
        new TermsTest().sameNumberOnBothSides();
        new TermsTest().destroyWhileItWaits();
        new TermsTest().relayCellWhileItWaits();
        new TermsTest().pointsOfLowOrder();
        new TermsTest().otherPoints();
        new TermsTest().cellsOfBuilding();
        new TermsTest().cellsOfStreams();
        new TermsTest().cellsOfThreeHops();
        new TermsTest().cellThatIsAlmostRecognized();
        new TermsTest().numbersOfFourBytes();
        new TermsTest().bytesOfAnAnswer();
        new TermsTest().placesUsedAgain();
        DUE.end();
    }

    private int call(String name, long... args) {
        return twin.call(name, args);
    }

    private void due(String what, int want, String name, long... args) {
        DUE.is(what, call(name, args), want);
    }

    private void end() {
        DUE.yes("as the model: " + (twin.same ? "" : twin.calls.get(twin.calls.size() - 1)), twin.same);
        DUE.yes("within the calls of one object", twin.calls.size() < Twin.CALLS);
    }

    /** Every byte of a cell, as the model has it. */
    private void lookAll(int from, int to, int k) {
        DUE.yes("a cell lies there", call("look", from, to, k, 0) != NONE);
        for (int i = 1; i < 140; i++) {
            call("look", from, to, k, i);
        }
    }

    private void open(int hops) {
        twin = new Twin();
        for (int i = 0; i < 3; i++) {
            call("relay", 20 + i);
        }
        call("client", 30);
        call("circuit", 8, 0, hops > 1 ? 1 : NONE, hops > 2 ? 2 : NONE);
        call("settle", 200);
        due("open", 1, "state", 0);
    }

    private void forge(int command, int stream, int length, int... data) {
        byte[] row = new byte[data.length];
        for (int i = 0; i < row.length; i++) {
            row[i] = (byte) data[i];
        }
        twin.forge(8, 0, Twin.payload(command, stream, length, row));
    }

    /** A payload of the client's that the first relay will find as told. */
    private void forged(int command, int stream, int length, int... data) {
        sendAny();
        forge(command, stream, length, data);
        due("handed over", 3, "deliver", 8, 0);
    }

    /** Some cell of the circuit's, as long as the client has one to send. */
    private void sendAny() {
        call("put", 0, 1, 1);
        boolean sent = call("push", 0, 1) > 0 || call("stream", 0, 1) != NONE;
        for (int stream = 4; stream > 1 && !sent; stream--) {
            sent = call("close", 0, stream) == 1;
        }
    }

    private void streamsOfAnyNumber() {
        for (int number : new int[] {0, 5, 256, 65535}) {
            open(1);
            call("stream", 0, 1);
            forge(1, number, 1, 2);
            call("deliver", 8, 0);
            due("it is there", 1, "has", 0, 1);
            due("the client knows nothing of it", 3, "deliver", 0, 8);
            due("still waiting", 0, "told", 0, 1, 0);
            due("still open", 1, "state", 0);
            forged(2, number, 3, 7, 8, 9);
            due("kept", 3, "has", 0, 2);
            due("kept", 9, "kept", 0, 2);
            forged(3, number, 0);
            due("there no more", 0, "has", 0, 1);
            end();
        }
    }

    private void beginOfAnotherLength() {
        for (int length : new int[] {0, 2, 124}) {
            open(1);
            call("stream", 0, 1);
            forge(1, 1, length, 1, 1);
            call("settle", 200);
            due("destroyed", 0, "has", 0, 0);
            due("gone", 2, "state", 0);
            end();
        }
    }

    private void beginOfAStreamThatIsThere() {
        open(1);
        call("stream", 0, 1);
        call("settle", 200);
        forged(1, 1, 1, 1);
        due("destroyed", 0, "has", 0, 0);
        due("DESTROY goes back", 4, "deliver", 0, 8);
        due("gone", 2, "state", 0);
        end();
    }

    private void fifthStream() {
        open(1);
        for (int i = 0; i < 4; i++) {
            call("stream", 0, 1);
        }
        call("settle", 200);
        forged(1, 5, 1, 2);
        due("no more than four", 4, "has", 0, 1);
        due("the entry stays", 1, "has", 0, 0);
        lookAll(0, 8, 0);
        due("END comes", 3, "deliver", 0, 8);
        due("the circuit stays", 1, "state", 0);
        forged(3, 2, 0);
        forged(1, 5, 1, 2);
        due("one has gone, one has come", 4, "has", 0, 1);
        end();
    }

    private void extendsThatAreNotAsTold() {
        int[][] wrong = {{69, 0}, {69, 3}, {69, 8}, {69, 255}, {68, 1}, {70, 1}, {0, 1}};
        for (int[] one : wrong) {
            open(1);
            call("stream", 0, 1);
            forge(14, 0, one[0], one[1]);
            call("settle", 200);
            due("destroyed", 0, "has", 0, 0);
            due("gone", 2, "state", 0);
            end();
        }
        open(1);
        for (int i = 3; i < 6; i++) {
            call("relay", 20 + i);
        }
        call("stream", 0, 1);
        forge(14, 0, 69, 6);
        call("settle", 200);
        due("no relay 6, ever", 0, "has", 0, 0);
        end();
        open(1);
        call("stream", 0, 1);
        forge(14, 9, 69, 2);
        call("deliver", 8, 0);
        due("as told: CREATE", 10, "look", 0, 2, 0, 4);
        due("number 1000", 3, "look", 0, 2, 0, 2);
        due("number 1000", 232, "look", 0, 2, 0, 3);
        due("not its KEY: DESTROY comes", 10, "deliver", 0, 2);
        due("it goes back", 4, "deliver", 2, 0);
        due("the entry is gone", 0, "has", 0, 0);
        end();
        open(2);
        call("stream", 0, 1);
        forge(14, 0, 69, 2);
        call("deliver", 8, 0);
        due("it goes on already: destroyed", 0, "has", 0, 0);
        due("to one side", 4, "look", 0, 8, 0, 4);
        due("to the other", 4, "look", 0, 1, 0, 4);
        end();
    }

    private void otherCommandsAtARelay() {
        for (int command : new int[] {0, 4, 6, 13, 15, 16, 255}) {
            open(1);
            call("stream", 0, 1);
            call("settle", 200);
            forged(command, 1, 0);
            due("destroyed", 0, "has", 0, 0);
            due("DESTROY", 4, "look", 0, 8, 0, 4);
            end();
        }
    }

    private void whatIsLeftOutAtARelay() {
        for (int command : new int[] {2, 3, 5}) {
            open(1);
            call("stream", 0, 1);
            call("settle", 200);
            forged(command, 2, 1, 1);
            due("no answer", 0, "waiting", 0, 8);
            due("the entry stays", 1, "has", 0, 0);
            due("and its stream", 1, "has", 0, 1);
            end();
        }
    }

    private void dataWithoutData() {
        open(1);
        call("stream", 0, 1);
        call("settle", 200);
        forged(2, 1, 0);
        due("it is sent back", 1, "waiting", 0, 8);
        forged(2, 1, 0);
        due("SENDME and DATA", 3, "waiting", 0, 8);
        due("DATA", 3, "deliver", 0, 8);
        due("window", 2, "told", 0, 1, 1);
        due("SENDME", 3, "deliver", 0, 8);
        due("window", 4, "told", 0, 1, 1);
        due("nothing from the client", 0, "waiting", 8, 0);
        due("DATA", 3, "deliver", 0, 8);
        due("it was the second: SENDME", 1, "waiting", 8, 0);
        due("nothing kept", 0, "told", 0, 1, 3);
        end();
    }

    private void windowOfEcho() {
        open(1);
        call("stream", 0, 1);
        call("settle", 200);
        for (int i = 1; i <= 6; i++) {
            call("put", 0, 1, i);
            call("push", 0, 1);
            call("deliver", 8, 0);
            call("drop", 0, 8);
            if (i < 5) {
                due("SENDME before DATA", 1 - i % 2, "waiting", 0, 8);
                call("drop", 0, 8);
            }
        }
        due("the client's own window is spent", 0, "told", 0, 1, 1);
        end();
        open(1);
        call("stream", 0, 1);
        call("settle", 200);
        for (int i = 1; i <= 4; i++) {
            forged(2, 1, 1, i);
        }
        due("four and two SENDME", 6, "waiting", 0, 8);
        forged(2, 1, 1, 5);
        due("the fifth is left out", 6, "waiting", 0, 8);
        forged(2, 1, 1, 6);
        due("the sixth is, but for SENDME", 7, "waiting", 0, 8);
        forged(5, 1, 0);
        forged(2, 1, 1, 7);
        due("two more", 8, "waiting", 0, 8);
        end();
    }

    private void relayKeepsTwoThousand() {
        open(1);
        call("stream", 0, 2);
        call("settle", 200);
        for (int i = 0; i < 16; i++) {
            fullData(i);
            call("deliver", 0, 8);
        }
        due("16 times 124", 1984, "has", 0, 2);
        fullData(77);
        due("no more than 2000", 2000, "has", 0, 2);
        due("the first of the last", 77, "kept", 0, 1984);
        due("the last", 0, "kept", 0, 1999);
        due("none behind it", NONE, "kept", 0, 2000);
        fullData(78);
        due("still", 2000, "has", 0, 2);
        end();
    }

    private void clientKeepsTwoThousand() {
        open(1);
        call("stream", 0, 1);
        call("settle", 200);
        for (int i = 0; i < 16; i++) {
            fullData(i);
            call("deliver", 0, 8);
            call("deliver", 0, 8);
        }
        due("16 times 124", 1984, "told", 0, 1, 3);
        for (int i = 0; i < 2; i++) {
            fullData(55 + i);
            call("deliver", 0, 8);
            call("deliver", 0, 8);
            due("no more than 2000", 2000, "told", 0, 1, 3);
        }
        due("the first of the last", 55, "got", 0, 1, 1984);
        due("none behind it", NONE, "got", 0, 1, 2000);
        end();
    }

    /** A SENDME of the client's goes before it, put right for what was altered already. */
    private void fullData(int b) {
        if (call("waiting", 8, 0) > 0) {
            forge(5, 1, 0);
            call("deliver", 8, 0);
        }
        sendAny();
        forge(2, 1, 124, b);
        call("deliver", 8, 0);
    }

    /** The relay's answer to the client, as the client shall find it. */
    private void answered(int command, int stream, int length) {
        call("put", 0, 1, 1);
        call("push", 0, 1);
        call("deliver", 8, 0);
        twin.forge(0, 8, Twin.payload(command, stream, length, (byte) 66));
        due("handed over", 3, "deliver", 0, 8);
    }

    private void commandsThatDestroyAtAClient() {
        int[][] wrong = {{0, 0}, {1, 1}, {6, 0}, {14, 69}, {15, 64}, {15, 0}, {255, 0}};
        for (int[] one : wrong) {
            open(1);
            call("stream", 0, 1);
            call("settle", 200);
            answered(one[0], 1, one[1]);
            due("gone", 2, "state", 0);
            due("its stream, too", 2, "told", 0, 1, 0);
            due("DESTROY", 4, "look", 8, 0, 0, 4);
            lookAll(8, 0, 0);
            end();
        }
    }

    private void whatIsLeftOutAtAClient() {
        for (int command : new int[] {2, 3, 4, 5}) {
            for (int stream : new int[] {0, 3, 257, 65535}) {
                open(1);
                call("stream", 0, 1);
                call("settle", 200);
                answered(command, stream, 1);
                due("open", 1, "state", 0);
                due("open", 1, "told", 0, 1, 0);
                due("its window", 3, "told", 0, 1, 1);
                due("nothing kept", 0, "told", 0, 1, 3);
                due("nothing sent", 0, "waiting", 8, 0);
                end();
            }
        }
        open(1);
        call("stream", 0, 1);
        call("settle", 200);
        call("stream", 0, 1);
        call("drop", 8, 0);
        due("waiting", 0, "told", 0, 2, 0);
        call("put", 0, 1, 1);
        call("push", 0, 1);
        forge(2, 1, 1, 9);
        due("out of step, but put right", 3, "deliver", 8, 0);
        twin.forge(0, 8, Twin.payload(2, 2, 1, (byte) 1));
        call("deliver", 0, 8);
        due("DATA of one that waits is left out", 0, "told", 0, 2, 3);
        call("put", 0, 1, 1);
        call("push", 0, 1);
        forge(2, 1, 1, 9);
        call("deliver", 8, 0);
        twin.forge(0, 8, Twin.payload(5, 2, 0));
        call("deliver", 0, 8);
        due("SENDME of one that waits counts", 6, "told", 0, 2, 1);
        twin.forge(0, 8, Twin.payload(3, 2, 0));
        call("deliver", 0, 8);
        due("END of one that waits counts", 2, "told", 0, 2, 0);
        call("put", 0, 1, 1);
        call("push", 0, 1);
        forge(2, 1, 1, 9);
        call("deliver", 8, 0);
        twin.forge(0, 8, Twin.payload(4, 2, 0));
        call("deliver", 0, 8);
        due("CONNECTED of a gone one is left out", 2, "told", 0, 2, 0);
        end();
    }

    private void answerOfAnotherLength() {
        for (int length : new int[] {63, 65, 0}) {
            twin = new Twin();
            call("relay", 1);
            call("relay", 2);
            call("client", 3);
            call("circuit", 8, 0, 1, NONE);
            call("settle", 5);
            List<Model.Side> layers = twin.layers(0, 8, 0);
            byte[] payload = twin.bare(0, 8, layers);
            payload[10] = (byte) length;
            twin.forge(0, 8, payload);
            call("deliver", 0, 8);
            due("gone", 2, "state", 0);
            due("one hop", 1, "hops", 0);
            end();
        }
    }

    private void payloadOfANearerHop() {
        open(2);
        call("stream", 0, 1);
        call("settle", 3);
        List<Model.Side> layers = twin.layers(0, 8, 1);
        byte[] payload = Twin.payload(4, 1, 0);
        System.arraycopy(layers.get(0).due(payload), 0, payload, 5, 4);
        twin.alterTo(0, 8, layers, payload);
        call("deliver", 0, 8);
        due("destroyed", 2, "state", 0);
        due("DESTROY", 4, "look", 8, 0, 0, 4);
        end();
    }

    private void payloadsThatAreNotRecognized() {
        int[][] wrong = {{1, 1}, {2, 1}, {9, 1}, {10, 125}, {5, 1}, {8, 1}};
        for (int[] one : wrong) {
            open(1);
            call("stream", 0, 1);
            byte[] payload = twin.bare(8, 0, twin.layers(8, 0, 0));
            payload[one[0]] ^= (byte) one[1];
            boolean digest = one[0] >= 5 && one[0] < 9;
            if (digest) {
                twin.alterTo(8, 0, twin.layers(8, 0, 0), payload);
            } else {
                twin.forge(8, 0, payload);
            }
            call("settle", 200);
            due("not recognized, and it goes nowhere", 2, "state", 0);
            due("no stream", 0, "has", 0, 1);
            end();
        }
        open(1);
        call("stream", 0, 2);
        call("settle", 200);
        forged(2, 1, 124, 1);
        due("124 is not too long", 124, "has", 0, 2);
        end();
    }

    /** Cells of the one circuit, and those that 'alter' makes CREATE cells of other numbers. */
    private void twelveEntries() {
        open(1);
        for (int i = 2; i <= 13; i++) {
            if (i <= 6) {
                call("circuit", 8, 0, NONE, NONE);
            } else {
                forgeCreate(i);
            }
            due("CREATE", 10, "deliver", 8, 0);
            due(i <= 12 ? "CREATED" : "DESTROY", i <= 12 ? 11 : 4, "look", 0, 8, 0, 4);
            call("drop", 0, 8);
            due("entries", Math.min(12, i), "has", 0, 0);
        }
        end();
    }

    private void forgeCreate(int number) {
        if (call("stream", 0, 1) == NONE) {
            call("destroy", number - 9);
        }
        byte[] cell = twin.model.link(8, 0).get(0);
        byte[] want = Crypto.join(Crypto.number(number, 4), Crypto.one(10), twin.model.relays.get(0).mark,
                twin.model.relays.get(0).key);
        for (int i = 0; i < want.length; i++) {
            if (cell[i] != want[i]) {
                call("alter", 8, 0, i, (cell[i] ^ want[i]) & 255);
            }
        }
    }

    private void sameNumberTwice() {
        open(1);
        call("circuit", 8, 0, NONE, NONE);
        call("alter", 8, 0, 3, 3);
        due("CREATE", 10, "deliver", 8, 0);
        due("DESTROY", 4, "look", 0, 8, 0, 4);
        due("of that number", 1, "look", 0, 8, 0, 3);
        due("the entry stays", 1, "has", 0, 0);
        call("deliver", 0, 8);
        due("but the client takes it for its own", 2, "state", 0);
        due("the other one builds", 0, "state", 1);
        call("circuit", 8, 0, NONE, NONE);
        due("no y was drawn for it", 10, "deliver", 8, 0);
        call("deliver", 0, 8);
        due("right", 1, "state", 2);
        end();
    }

    /** Relay 0 goes on to relay 1 by 1000, and relay 1 to relay 0 by 1000: who came is asked first. */
    private void sameNumberOnBothSides() {
        twin = new Twin();
        call("relay", 5);
        call("relay", 6);
        call("client", 9);
        call("circuit", 8, 0, 1, NONE);
        call("circuit", 8, 1, 0, NONE);
        call("settle", 200);
        due("the first", 1, "state", 0);
        due("the second", 1, "state", 1);
        call("stream", 0, 1);
        due("BEGIN, BEGIN, CONNECTED, DESTROY", 4, "settle", 200);
        due("CONNECTED was taken for one that came", 1, "has", 0, 0);
        due("and so was DESTROY", 1, "has", 1, 0);
        due("the client hears nothing", 0, "told", 0, 1, 0);
        end();
        twin = new Twin();
        call("relay", 5);
        call("relay", 6);
        call("client", 9);
        call("circuit", 8, 0, 1, NONE);
        call("settle", 200);
        call("circuit", 8, 1, 0, NONE);
        call("settle", 200);
        due("two entries", 2, "has", 0, 0);
        call("destroy", 1);
        call("settle", 200);
        due("the first", 1, "state", 0);
        due("DESTROY was for the one that came", 1, "has", 0, 0);
        end();
    }

    private void destroyWhileItWaits() {
        twin = new Twin();
        call("relay", 1);
        call("relay", 2);
        call("client", 3);
        call("circuit", 8, 0, 1, NONE);
        call("settle", 3);
        due("CREATE is on its way", 1, "waiting", 0, 1);
        call("destroy", 0);
        due("DESTROY", 4, "deliver", 8, 0);
        due("it follows CREATE", 2, "waiting", 0, 1);
        due("no entry", 0, "has", 0, 0);
        call("deliver", 0, 1);
        due("an entry", 1, "has", 1, 0);
        call("deliver", 0, 1);
        due("no entry", 0, "has", 1, 0);
        due("CREATED of nobody", 11, "deliver", 1, 0);
        due("is left out", 0, "settle", 200);
        end();
    }

    private void relayCellWhileItWaits() {
        twin = new Twin();
        call("relay", 1);
        call("relay", 2);
        call("client", 3);
        call("circuit", 8, 0, 1, NONE);
        call("settle", 4);
        call("alter", 1, 0, 4, 8);
        due("RELAY instead of CREATED", 3, "deliver", 1, 0);
        due("is left out", 0, "waiting", 0, 8);
        due("the entry stays", 1, "has", 0, 0);
        call("destroy", 0);
        call("alter", 8, 0, 4, 7);
        due("RELAY instead of DESTROY", 3, "deliver", 8, 0);
        due("is not recognized: DESTROY to one side", 4, "look", 0, 8, 0, 4);
        due("and to the other", 4, "look", 0, 1, 0, 4);
        due("no entry", 0, "has", 0, 0);
        end();
    }

    /** X and Y of zeros: the products are zeros, and nothing is refused for that. */
    private void pointsOfLowOrder() {
        twin = new Twin();
        call("relay", 1);
        call("client", 3);
        call("circuit", 8, 0, NONE, NONE);
        byte[] cell = twin.model.link(8, 0).get(0).clone();
        for (int i = 41; i < 73; i++) {
            if (cell[i] != 0) {
                call("alter", 8, 0, i, cell[i] & 255);
            }
        }
        call("deliver", 8, 0);
        due("an entry", 1, "has", 0, 0);
        for (int i = 0; i < 69; i++) {
            call("look", 0, 8, 0, i);
        }
        call("deliver", 0, 8);
        due("not right", 2, "state", 0);
        end();
    }

    /** Half of all numbers are on the curve's twist, where X25519 holds as well. */
    private void otherPoints() {
        for (int mask = 1; mask < 9; mask++) {
            twin = new Twin();
            call("relay", 1);
            call("client", 3);
            call("circuit", 8, 0, NONE, NONE);
            call("alter", 8, 0, 41, mask);
            call("alter", 8, 0, 72, 128);
            call("deliver", 8, 0);
            lookAll(0, 8, 0);
            end();
        }
    }

    private void building() {
        twin = new Twin();
        for (int i = 0; i < 3; i++) {
            call("relay", 40 + i);
        }
        call("client", 50);
        call("circuit", 8, 2, 0, 1);
    }

    private void cellsOfBuilding() {
        building();
        call("settle", 2);
        lookAll(8, 2, 0);
        call("deliver", 8, 2);
        lookAll(2, 0, 0);
        call("deliver", 2, 0);
        lookAll(0, 2, 0);
        end();
        building();
        call("settle", 5);
        lookAll(2, 8, 0);
        call("deliver", 2, 8);
        lookAll(8, 2, 0);
        call("deliver", 8, 2);
        lookAll(2, 0, 0);
        end();
        building();
        call("settle", 10);
        lookAll(0, 2, 0);
        call("deliver", 0, 2);
        lookAll(2, 8, 0);
        call("destroy", 0);
        lookAll(8, 2, 0);
        end();
    }

    private void cellsOfStreams() {
        open(1);
        call("stream", 0, 1);
        lookAll(8, 0, 0);
        call("deliver", 8, 0);
        lookAll(0, 8, 0);
        call("deliver", 0, 8);
        call("put", 0, 1, 200);
        call("push", 0, 1);
        lookAll(8, 0, 0);
        end();
        open(1);
        call("stream", 0, 1);
        call("settle", 200);
        for (int i = 0; i < 2; i++) {
            call("put", 0, 1, i);
            call("push", 0, 1);
            call("deliver", 8, 0);
        }
        lookAll(0, 8, 1);
        lookAll(0, 8, 2);
        call("settle", 3);
        lookAll(8, 0, 0);
        end();
        open(1);
        call("stream", 0, 3);
        call("deliver", 8, 0);
        lookAll(0, 8, 0);
        call("stream", 0, 1);
        call("deliver", 8, 0);
        call("close", 0, 2);
        lookAll(8, 0, 0);
        call("put", 0, 1, 1);
        end();
    }

    private void cellsOfThreeHops() {
        open(3);
        call("stream", 0, 2);
        lookAll(8, 0, 0);
        call("deliver", 8, 0);
        lookAll(0, 1, 0);
        call("deliver", 0, 1);
        lookAll(1, 2, 0);
        end();
        open(3);
        call("stream", 0, 2);
        call("settle", 3);
        lookAll(2, 1, 0);
        call("deliver", 2, 1);
        lookAll(1, 0, 0);
        call("deliver", 1, 0);
        lookAll(0, 8, 0);
        end();
    }

    /** All is right but the digest: the cell goes on just as the cipher left it. */
    private void cellThatIsAlmostRecognized() {
        open(2);
        call("stream", 0, 1);
        List<Model.Side> layers = twin.layers(8, 0, 0);
        byte[] payload = Twin.payload(1, 1, 1, (byte) 1);
        System.arraycopy(layers.get(0).due(payload), 0, payload, 5, 4);
        payload[8] ^= 1;
        twin.alterTo(8, 0, layers, payload);
        due("handed over", 3, "deliver", 8, 0);
        lookAll(0, 1, 0);
        due("the next one does not know it either", 3, "deliver", 0, 1);
        due("DESTROY", 4, "deliver", 1, 0);
        end();
    }

    private void numbersOfFourBytes() {
        twin = new Twin();
        call("relay", 1);
        call("client", 3);
        for (int i = 0; i < 4; i++) {
            call("circuit", 8, 0, NONE, NONE);
            for (int at = 0; at < 4; at++) {
                int now = call("look", 8, 0, 0, at);
                int want = at == i ? 255 - i : 0;
                if (now != want) {
                    call("alter", 8, 0, at, now ^ want);
                }
            }
            due("CREATE", 10, "deliver", 8, 0);
            due("CREATED", 11, "look", 0, 8, i, 4);
            for (int at = 0; at < 4; at++) {
                due("its number", at == i ? 255 - i : 0, "look", 0, 8, i, at);
            }
            due("another entry", i + 1, "has", 0, 0);
        }
        due("left out by the client", 4, "settle", 200);
        due("still building", 0, "state", 0);
        end();
    }

    private void bytesOfAnAnswer() {
        twin = new Twin();
        call("relay", 1);
        call("client", 3);
        int[] at = {5, 36, 37, 38, 68, 69};
        for (int i = 0; i < 6; i++) {
            call("circuit", 8, 0, NONE, NONE);
            call("deliver", 8, 0);
            call("alter", 0, 8, at[i], 128);
            call("deliver", 0, 8);
            due("right or not", at[i] < 69 ? 2 : 1, "state", i);
            call("drop", 8, 0);
        }
        end();
    }

    /** What a stream that has ended left behind is not the next one's, nor the last one's. */
    private void placesUsedAgain() {
        open(1);
        call("stream", 0, 1);
        call("stream", 0, 1);
        call("settle", 200);
        call("put", 0, 1, 1);
        call("push", 0, 1);
        call("deliver", 8, 0);
        call("close", 0, 1);
        call("deliver", 8, 0);
        due("one echo", 1, "waiting", 0, 8);
        for (int i = 0; i < 4; i++) {
            call("put", 0, 2, 1);
            call("push", 0, 2);
            call("deliver", 8, 0);
        }
        due("a whole window, and SENDME twice", 7, "waiting", 0, 8);
        call("stream", 0, 2);
        call("deliver", 8, 0);
        due("CONNECTED", 8, "waiting", 0, 8);
        due("all come, and SENDME twice", 10, "settle", 200);
        call("put", 0, 3, 9);
        call("push", 0, 3);
        call("settle", 200);
        due("no SENDME for its first", 3, "told", 0, 3, 1);
        end();
        open(1);
        call("stream", 0, 1);
        call("settle", 200);
        call("put", 0, 1, 1);
        call("push", 0, 1);
        call("settle", 200);
        call("close", 0, 1);
        call("stream", 0, 2);
        call("settle", 200);
        call("put", 0, 2, 1);
        call("push", 0, 2);
        call("settle", 200);
        due("its first", 3, "told", 0, 2, 1);
        call("put", 0, 2, 1);
        call("push", 0, 2);
        call("settle", 200);
        due("its second", 4, "told", 0, 2, 1);
        end();
        open(1);
        call("stream", 0, 1);
        call("stream", 0, 1);
        call("settle", 200);
        for (int i = 0; i < 4; i++) {
            call("put", 0, 1, 1);
            call("push", 0, 1);
            call("deliver", 8, 0);
        }
        call("close", 0, 1);
        call("deliver", 8, 0);
        call("put", 0, 2, 1);
        call("push", 0, 2);
        call("deliver", 8, 0);
        due("its window is its own", 7, "waiting", 0, 8);
        end();
    }
}
