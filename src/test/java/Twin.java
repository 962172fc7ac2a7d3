import java.nio.ByteBuffer;
import java.util.ArrayList;
import java.util.Arrays;
import java.util.List;

/** An OnionNet and a Model that get the same calls; it notes the first answer that differs. */
final class Twin {
    final OnionNet net = new OnionNet();
    final Model model = new Model();
    final List<Face.Call> made = new ArrayList<>();
    boolean same = true;
    /** The first answer that differs. */
    String difference = "";
    /** More calls were asked for than one object has. */
    boolean over;

    int call(String name, long... args) {
        if (made.size() >= Face.CALLS) {
            over = true;
            return 0;
        }
        Face.Call call = new Face.Call(name, args);
        int due = Face.answer(model, call);
        int answer = Face.answer(net, call);
        made.add(call);
        if (answer != due && same) {
            same = false;
            difference = call + " answered " + answer + ", due is " + due;
        }
        if (Boolean.getBoolean("deep")) {
            compareAll();
        }
        return answer;
    }

    /** A payload as the document lays it out, its digest still zero. */
    static byte[] payload(int command, int stream, int length, byte... data) {
        return Arrays.copyOf(Crypto.join(Crypto.one(command), new byte[2], Crypto.number(stream, 2),
                new byte[4], Crypto.number(length, 2), data), 135);
    }

    /** The payload of the first cell of a link without the layers that its receiver will take off. */
    byte[] bare(int from, int to, List<Model.Side> layers) {
        byte[] bare = Arrays.copyOfRange(model.link(from, to).get(0), 5, 140);
        for (Model.Side layer : layers) {
            byte[] stream = Crypto.keystream(layer.cipherKey, 135 * layer.laid, 135);
            for (int i = 0; i < 135; i++) {
                bare[i] ^= stream[i];
            }
        }
        return bare;
    }

    /** Alters the first cell of a link so that its receiver finds this payload, of a right digest. */
    void forge(int from, int to, byte[] payload) {
        List<Model.Side> layers = layers(from, to, 0);
        System.arraycopy(layers.get(layers.size() - 1).due(payload), 0, payload, 5, 4);
        alterTo(from, to, layers, payload);
    }

    void alterTo(int from, int to, List<Model.Side> layers, byte[] payload) {
        byte[] bare = bare(from, to, layers);
        for (int i = 0; i < 135; i++) {
            if (payload[i] != bare[i]) {
                call("alter", from, to, 5 + i, (payload[i] ^ bare[i]) & 255);
            }
        }
    }

    /** The layers that will be taken off the first cell of a link, but for so many of the last. */
    List<Model.Side> layers(int from, int to, int without) {
        int number = ByteBuffer.wrap(model.link(from, to).get(0)).getInt();
        List<Model.Side> layers = new ArrayList<>();
        if (to < 8) {
            for (Model.Entry entry : model.relays.get(to).entries) {
                if (entry.fromNode == from && entry.fromNumber == number) {
                    layers.add(entry.keys.forward);
                }
            }
            return layers;
        }
        for (Model.Circuit circuit : model.circuits) {
            if (circuit.client.id == to && circuit.path.get(0).id == from && circuit.number == number) {
                for (int hop = 0; hop < circuit.keys.size() - without; hop++) {
                    layers.add(circuit.keys.get(hop).backward);
                }
            }
        }
        return layers;
    }

    /** For search by hand only (-Ddeep=true): it asks more than the 512 calls that are promised. */
    private void compareAll() {
        for (int link = 0; link < 100; link++) {
            int waiting = model.waiting(link / 10, link % 10);
            same &= waiting == net.waiting(link / 10, link % 10);
            for (int i = 0; i < 140 * waiting; i++) {
                same &= model.look(link / 10, link % 10, i / 140, i % 140)
                        == net.look(link / 10, link % 10, i / 140, i % 140);
            }
        }
        for (int circuit = 0; circuit < 6; circuit++) {
            same &= model.state(circuit) == net.state(circuit) && model.hops(circuit) == net.hops(circuit);
            for (int i = 0; i < 16; i++) {
                same &= model.told(circuit, 1 + i / 4, i % 4) == net.told(circuit, 1 + i / 4, i % 4);
            }
        }
        for (int relay = 0; relay < 6; relay++) {
            for (int what = 0; what < 3; what++) {
                same &= model.has(relay, what) == net.has(relay, what);
            }
        }
    }
}
