import java.nio.ByteBuffer;
import java.util.ArrayList;
import java.util.Arrays;
import java.util.List;

/** An OnionNet and a Model that get the same calls; it notes the first answer that differs. */
final class Twin {
    static final int CALLS = 512;

    final OnionNet net = new OnionNet();
    final Model model = new Model();
    final List<String> calls = new ArrayList<>();
    boolean same = true;

    int call(String name, long... args) {
        if (calls.size() >= CALLS) {
            return 0;
        }
        int[] a = new int[4];
        StringBuilder text = new StringBuilder(name).append('(');
        for (int i = 0; i < args.length; i++) {
            a[i] = (int) args[i];
            text.append(i == 0 ? "" : ",").append(args[i]);
        }
        int due = modelAnswer(name, args[0], a);
        int answer = netAnswer(name, args[0], a);
        calls.add(text.append(")=").append(answer).toString());
        if (answer != due && same) {
            same = false;
            calls.add("due is " + due);
        }
        if (Boolean.getBoolean("deep")) {
            compareAll();
        }
        return answer;
    }

    /** A payload as the document lays it out, its digest still zero. */
    static byte[] payload(int command, int stream, int length, byte... data) {
        return Arrays.copyOf(Crypto.join(Crypto.one(command), new byte[2], Crypto.number(stream, 2),
                new byte[4], Crypto.number(length, 2), data), 135);
    }

    /** The payload of the first cell of a link without the layers that its receiver will take off. */
    byte[] bare(int from, int to, List<Model.Side> layers) {
        byte[] bare = Arrays.copyOfRange(model.link(from, to).get(0), 5, 140);
        for (Model.Side layer : layers) {
            byte[] stream = Crypto.keystream(layer.cipherKey, 135 * layer.laid, 135);
            for (int i = 0; i < 135; i++) {
                bare[i] ^= stream[i];
            }
        }
        return bare;
    }

    /** Alters the first cell of a link so that its receiver finds this payload, of a right digest. */
    void forge(int from, int to, byte[] payload) {
        List<Model.Side> layers = layers(from, to, 0);
        System.arraycopy(layers.get(layers.size() - 1).due(payload), 0, payload, 5, 4);
        alterTo(from, to, layers, payload);
    }

    void alterTo(int from, int to, List<Model.Side> layers, byte[] payload) {
        byte[] bare = bare(from, to, layers);
        for (int i = 0; i < 135; i++) {
            if (payload[i] != bare[i]) {
                call("alter", from, to, 5 + i, (payload[i] ^ bare[i]) & 255);
            }
        }
    }

    /** The layers that will be taken off the first cell of a link, but for so many of the last. */
    List<Model.Side> layers(int from, int to, int without) {
        int number = ByteBuffer.wrap(model.link(from, to).get(0)).getInt();
        List<Model.Side> layers = new ArrayList<>();
        if (to < 8) {
            for (Model.Entry entry : model.relays.get(to).entries) {
                if (entry.fromNode == from && entry.fromNumber == number) {
                    layers.add(entry.keys.forward);
                }
            }
            return layers;
        }
        for (Model.Circuit circuit : model.circuits) {
            if (circuit.client.id == to && circuit.path.get(0).id == from && circuit.number == number) {
                for (int hop = 0; hop < circuit.keys.size() - without; hop++) {
                    layers.add(circuit.keys.get(hop).backward);
                }
            }
        }
        return layers;
    }

    private int netAnswer(String name, long word, int[] a) {
        switch (name) {
            case "relay": return net.relay(word);
            case "client": return net.client(word);
            case "key": return net.key(a[0], a[1]);
            case "weigh": return net.weigh(a[0], a[1]) ? 1 : 0;
            case "path": return net.path(word, a[1]);
            case "seal": return net.seal(a[0]);
            case "circuit": return net.circuit(a[0], a[1], a[2], a[3]);
            case "stream": return net.stream(a[0], a[1]);
            case "put": return net.put(a[0], a[1], a[2]) ? 1 : 0;
            case "push": return net.push(a[0], a[1]);
            case "close": return net.close(a[0], a[1]) ? 1 : 0;
            case "destroy": return net.destroy(a[0]) ? 1 : 0;
            case "deliver": return net.deliver(a[0], a[1]);
            case "drop": return net.drop(a[0], a[1]) ? 1 : 0;
            case "alter": return net.alter(a[0], a[1], a[2], a[3]) ? 1 : 0;
            case "waiting": return net.waiting(a[0], a[1]);
            case "look": return net.look(a[0], a[1], a[2], a[3]);
            case "settle": return net.settle(a[0]);
            case "state": return net.state(a[0]);
            case "hops": return net.hops(a[0]);
            case "told": return net.told(a[0], a[1], a[2]);
            case "got": return net.got(a[0], a[1], a[2]);
            case "kept": return net.kept(a[0], a[1]);
            case "has": return net.has(a[0], a[1]);
            default: throw new IllegalArgumentException(name);
        }
    }

    private int modelAnswer(String name, long word, int[] a) {
        switch (name) {
            case "relay": return model.relay(word);
            case "client": return model.client(word);
            case "key": return model.key(a[0], a[1]);
            case "weigh": return model.weigh(a[0], a[1]) ? 1 : 0;
            case "path": return model.path(word, a[1]);
            case "seal": return model.seal(a[0]);
            case "circuit": return model.circuit(a[0], a[1], a[2], a[3]);
            case "stream": return model.stream(a[0], a[1]);
            case "put": return model.put(a[0], a[1], a[2]) ? 1 : 0;
            case "push": return model.push(a[0], a[1]);
            case "close": return model.close(a[0], a[1]) ? 1 : 0;
            case "destroy": return model.destroy(a[0]) ? 1 : 0;
            case "deliver": return model.deliver(a[0], a[1]);
            case "drop": return model.drop(a[0], a[1]) ? 1 : 0;
            case "alter": return model.alter(a[0], a[1], a[2], a[3]) ? 1 : 0;
            case "waiting": return model.waiting(a[0], a[1]);
            case "look": return model.look(a[0], a[1], a[2], a[3]);
            case "settle": return model.settle(a[0]);
            case "state": return model.state(a[0]);
            case "hops": return model.hops(a[0]);
            case "told": return model.told(a[0], a[1], a[2]);
            case "got": return model.got(a[0], a[1], a[2]);
            case "kept": return model.kept(a[0], a[1]);
            case "has": return model.has(a[0], a[1]);
            default: throw new IllegalArgumentException(name);
        }
    }

    /** For search by hand only (-Ddeep=true): it asks more than the 512 calls that are promised. */
    private void compareAll() {
        for (int link = 0; link < 100; link++) {
            int waiting = model.waiting(link / 10, link % 10);
            same &= waiting == net.waiting(link / 10, link % 10);
            for (int i = 0; i < 140 * waiting; i++) {
                same &= model.look(link / 10, link % 10, i / 140, i % 140)
                        == net.look(link / 10, link % 10, i / 140, i % 140);
            }
        }
        for (int circuit = 0; circuit < 6; circuit++) {
            same &= model.state(circuit) == net.state(circuit) && model.hops(circuit) == net.hops(circuit);
            for (int i = 0; i < 16; i++) {
                same &= model.told(circuit, 1 + i / 4, i % 4) == net.told(circuit, 1 + i / 4, i % 4);
            }
        }
        for (int relay = 0; relay < 6; relay++) {
            for (int what = 0; what < 3; what++) {
                same &= model.has(relay, what) == net.has(relay, what);
            }
        }
    }
}
