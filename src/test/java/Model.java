import java.io.ByteArrayOutputStream;
import java.nio.ByteBuffer;
import java.util.ArrayList;
import java.util.Arrays;
import java.util.LinkedHashMap;
import java.util.List;
import java.util.Map;

/**
 * The document read a second time, as plainly as can be: every digest is hashed anew from all that
 * went before, every keystream is made anew from its start. ModelTest holds OnionNet against it.
 */
final class Model {
    static final int NONE = -1;

    static class Node {
        final int id;
        final byte[] seed;
        int draws;
        int given;

        Node(int id, long seed, int given) {
            this.id = id;
            this.seed = Crypto.number(seed, 8);
            this.given = given;
        }

        byte[] draw() {
            return Crypto.sha(Crypto.NAME, Crypto.one(1), seed, Crypto.number(draws++, 4));
        }
    }

    static final class Side {
        final byte[] digestKey;
        final byte[] cipherKey;
        final ByteArrayOutputStream hashed = new ByteArrayOutputStream();
        int laid;

        Side(byte[] master, int digest, int cipher) {
            digestKey = Crypto.hmac(master, Crypto.one(digest));
            cipherKey = Crypto.hmac(master, Crypto.one(cipher));
        }

        byte[] due(byte[] payload) {
            byte[] zeroed = payload.clone();
            Arrays.fill(zeroed, 5, 9, (byte) 0);
            return Arrays.copyOf(Crypto.sha(digestKey, hashed.toByteArray(), zeroed), 4);
        }

        void note(byte[] payload) {
            byte[] zeroed = payload.clone();
            Arrays.fill(zeroed, 5, 9, (byte) 0);
            hashed.write(zeroed, 0, zeroed.length);
        }

        byte[] crypt(byte[] payload) {
            byte[] stream = Crypto.keystream(cipherKey, 135 * laid++, 135);
            for (int i = 0; i < 135; i++) {
                stream[i] ^= payload[i];
            }
            return stream;
        }

        byte[] make(int command, int stream, byte[] data) {
            byte[] payload = Arrays.copyOf(Crypto.join(Crypto.one(command), new byte[2], Crypto.number(stream, 2),
                    new byte[4], Crypto.number(data.length, 2), data), 135);
            byte[] digest = due(payload);
            note(payload);
            System.arraycopy(digest, 0, payload, 5, 4);
            return payload;
        }

        boolean recognizes(byte[] payload) {
            if (payload[1] != 0 || payload[2] != 0 || length(payload) > 124
                    || !Arrays.equals(due(payload), Arrays.copyOfRange(payload, 5, 9))) {
                return false;
            }
            note(payload);
            return true;
        }
    }

    static final class Keys {
        final Side forward;
        final Side backward;

        Keys(byte[] s) {
            byte[] master = Crypto.hmac(Crypto.join(Crypto.NAME, Crypto.one(5)), s);
            forward = new Side(master, 1, 3);
            backward = new Side(master, 2, 4);
        }
    }

    static final class Far {
        int service;
        int window = 4;
        int datas;
    }

    static final class Entry {
        int fromNode;
        int fromNumber;
        Keys keys;
        int onNode = NONE;
        int onNumber;
        boolean waits;
        final Map<Integer, Far> streams = new LinkedHashMap<>();
    }

    final class Relay extends Node {
        final byte[] secret;
        final byte[] key;
        final byte[] mark;
        int weight = 10;
        final List<Entry> entries = new ArrayList<>();
        final ByteArrayOutputStream kept = new ByteArrayOutputStream();

        Relay(int id, long seed) {
            super(id, seed, 1000);
            secret = Crypto.sha(Crypto.NAME, Crypto.one(2), this.seed);
            key = Crypto.curve(secret, Crypto.base());
            mark = Arrays.copyOf(Crypto.sha(Crypto.NAME, Crypto.one(3), key), 4);
        }
    }

    static final class Near {
        int state;
        int window = 4;
        int datas;
        final List<Byte> waiting = new ArrayList<>();
        final ByteArrayOutputStream kept = new ByteArrayOutputStream();
    }

    static final class Circuit {
        Node client;
        int number;
        List<Relay> path = new ArrayList<>();
        int state;
        final List<Keys> keys = new ArrayList<>();
        byte[] x;
        final List<Near> streams = new ArrayList<>();
    }

    final Map<Integer, Node> nodes = new LinkedHashMap<>();
    final List<Relay> relays = new ArrayList<>();
    int clients;
    final List<Circuit> circuits = new ArrayList<>();
    final Map<Integer, List<byte[]>> links = new LinkedHashMap<>();

    static int length(byte[] payload) {
        return (payload[9] & 255) << 8 | payload[10] & 255;
    }

    static byte[] data(byte[] payload) {
        return Arrays.copyOfRange(payload, 11, 11 + length(payload));
    }

    // ---- the face

    int relay(long seed) {
        if (relays.size() == 6) {
            return NONE;
        }
        Relay made = new Relay(relays.size(), seed);
        relays.add(made);
        nodes.put(made.id, made);
        return made.id;
    }

    int client(long seed) {
        if (clients == 2) {
            return NONE;
        }
        Node made = new Node(8 + clients++, seed, 1);
        nodes.put(made.id, made);
        return made.id;
    }

    int key(int relay, int i) {
        if (!isRelay(relay) || i < 0 || i > 35) {
            return NONE;
        }
        return Crypto.join(relays.get(relay).key, relays.get(relay).mark)[i] & 255;
    }

    boolean weigh(int relay, int w) {
        if (!isRelay(relay) || w < 0 || w > 1000) {
            return false;
        }
        relays.get(relay).weight = w;
        return true;
    }

    int path(long word, int k) {
        if (k < 0 || k > 2) {
            return NONE;
        }
        List<Relay> left = new ArrayList<>(relays);
        for (int step = 0; ; step++) {
            int total = left.stream().mapToInt(r -> r.weight).sum();
            if (total == 0) {
                return NONE;
            }
            long n = (word >> 20 * step & (1L << 20) - 1) % total;
            int at = 0;
            while (n >= left.get(at).weight) {
                n -= left.get(at++).weight;
            }
            Relay drawn = left.remove(at);
            if (step == k) {
                return drawn.id;
            }
        }
    }

    int seal(int i) {
        if (i < 0 || i > 31) {
            return NONE;
        }
        byte[] table = Crypto.join(Crypto.NAME, Crypto.one(6));
        for (Relay r : relays) {
            table = Crypto.join(table, Crypto.one(r.id), Crypto.number(r.weight, 2), r.mark, r.key);
        }
        return Crypto.sha(table)[i] & 255;
    }

    int circuit(int client, int a, int b, int c) {
        if (client < 8 || client >= 8 + clients || circuits.size() == 6 || !isRelay(a)
                || b != NONE && (!isRelay(b) || b == a)
                || c != NONE && (b == NONE || !isRelay(c) || c == a || c == b)) {
            return NONE;
        }
        Circuit made = new Circuit();
        made.client = nodes.get(client);
        made.number = made.client.given++;
        for (int hop : new int[] {a, b, c}) {
            if (hop != NONE) {
                made.path.add(relays.get(hop));
            }
        }
        circuits.add(made);
        send(client, a, made.number, 10, offer(made));
        return circuits.size() - 1;
    }

    int stream(int circuit, int port) {
        Circuit c = at(circuit);
        if (c == null || c.state != 1 || c.streams.size() == 4 || port < 0 || port > 255) {
            return NONE;
        }
        c.streams.add(new Near());
        toLast(c, 1, c.streams.size(), Crypto.one(port));
        return c.streams.size();
    }

    boolean put(int circuit, int stream, int b) {
        Near s = at(circuit, stream);
        if (s == null || s.state == 2 || s.waiting.size() == 400) {
            return false;
        }
        return s.waiting.add((byte) b);
    }

    int push(int circuit, int stream) {
        Near s = at(circuit, stream);
        if (s == null) {
            return NONE;
        }
        if (s.state != 1 || s.window == 0 || s.waiting.isEmpty()) {
            return 0;
        }
        byte[] row = new byte[Math.min(124, s.waiting.size())];
        for (int i = 0; i < row.length; i++) {
            row[i] = s.waiting.remove(0);
        }
        s.window--;
        toLast(at(circuit), 2, stream, row);
        return row.length;
    }

    boolean close(int circuit, int stream) {
        Near s = at(circuit, stream);
        if (s == null || s.state == 2) {
            return false;
        }
        toLast(at(circuit), 3, stream, new byte[0]);
        s.state = 2;
        return true;
    }

    boolean destroy(int circuit) {
        Circuit c = at(circuit);
        if (c == null || c.state == 2) {
            return false;
        }
        destroyed(c);
        return true;
    }

    int deliver(int from, int to) {
        List<byte[]> row = link(from, to);
        if (row == null || row.isEmpty()) {
            return NONE;
        }
        byte[] cell = row.remove(0);
        int number = ByteBuffer.wrap(cell).getInt();
        byte[] payload = Arrays.copyOfRange(cell, 5, 140);
        if (to < 8) {
            relayTakes(relays.get(to), from, number, cell[4] & 255, payload);
        } else {
            clientTakes(to, from, number, cell[4] & 255, payload);
        }
        return cell[4] & 255;
    }

    boolean drop(int from, int to) {
        List<byte[]> row = link(from, to);
        if (row == null || row.isEmpty()) {
            return false;
        }
        row.remove(0);
        return true;
    }

    boolean alter(int from, int to, int at, int mask) {
        List<byte[]> row = link(from, to);
        if (row == null || row.isEmpty() || at < 0 || at > 139 || mask < 1 || mask > 255) {
            return false;
        }
        row.get(0)[at] ^= (byte) mask;
        return true;
    }

    int waiting(int from, int to) {
        List<byte[]> row = link(from, to);
        return row == null ? NONE : row.size();
    }

    int look(int from, int to, int k, int i) {
        List<byte[]> row = link(from, to);
        if (row == null || k < 0 || k >= row.size() || i < 0 || i > 139) {
            return NONE;
        }
        return row.get(k)[i] & 255;
    }

    int settle(int n) {
        if (n < 1 || n > 200) {
            return NONE;
        }
        int handed = 0;
        while (true) {
            int before = handed;
            for (int from = 0; from < 10; from++) {
                for (int to = 0; to < 10; to++) {
                    if (deliver(from, to) != NONE && ++handed == n) {
                        return n;
                    }
                }
            }
            if (handed == before) {
                return handed;
            }
        }
    }

    int state(int circuit) {
        return at(circuit) == null ? NONE : at(circuit).state;
    }

    int hops(int circuit) {
        return at(circuit) == null ? NONE : at(circuit).keys.size();
    }

    int told(int circuit, int stream, int what) {
        Near s = at(circuit, stream);
        if (s == null || what < 0 || what > 3) {
            return NONE;
        }
        return new int[] {s.state, s.window, s.waiting.size(), s.kept.size()}[what];
    }

    int got(int circuit, int stream, int i) {
        Near s = at(circuit, stream);
        return s == null || i < 0 || i >= s.kept.size() ? NONE : s.kept.toByteArray()[i] & 255;
    }

    int kept(int relay, int i) {
        if (!isRelay(relay) || i < 0 || i >= relays.get(relay).kept.size()) {
            return NONE;
        }
        return relays.get(relay).kept.toByteArray()[i] & 255;
    }

    int has(int relay, int what) {
        if (!isRelay(relay) || what < 0 || what > 2) {
            return NONE;
        }
        Relay r = relays.get(relay);
        return what == 0 ? r.entries.size()
                : what == 1 ? r.entries.stream().mapToInt(e -> e.streams.size()).sum() : r.kept.size();
    }

    // ---- what lies behind it

    boolean isRelay(int id) {
        return id >= 0 && id < relays.size();
    }

    Circuit at(int circuit) {
        return circuit < 0 || circuit >= circuits.size() ? null : circuits.get(circuit);
    }

    Near at(int circuit, int stream) {
        Circuit c = at(circuit);
        return c == null || stream < 1 || stream > c.streams.size() ? null : c.streams.get(stream - 1);
    }

    List<byte[]> link(int from, int to) {
        if (from == to || !nodes.containsKey(from) || !nodes.containsKey(to)) {
            return null;
        }
        return links.computeIfAbsent(10 * from + to, unused -> new ArrayList<>());
    }

    void send(int from, int to, int number, int command, byte[] payload) {
        List<byte[]> row = link(from, to);
        if (row.size() < 8) {
            row.add(Arrays.copyOf(Crypto.join(Crypto.number(number, 4), Crypto.one(command), payload), 140));
        }
    }

    static byte[] agreed(byte[] first, byte[] second, Relay relay, byte[] x, byte[] y) {
        return Crypto.join(first, second, relay.mark, relay.key, x, y, Crypto.NAME);
    }

    static byte[] proof(byte[] s) {
        return Crypto.hmac(Crypto.join(Crypto.NAME, Crypto.one(4)), s);
    }

    byte[] offer(Circuit c) {
        Relay next = c.path.get(c.keys.size());
        c.x = c.client.draw();
        return Crypto.join(next.mark, next.key, Crypto.curve(c.x, Crypto.base()));
    }

    void toLast(Circuit c, int command, int stream, byte[] data) {
        int last = c.keys.size() - 1;
        byte[] payload = c.keys.get(last).forward.make(command, stream, data);
        for (int hop = last; hop >= 0; hop--) {
            payload = c.keys.get(hop).forward.crypt(payload);
        }
        send(c.client.id, c.path.get(0).id, c.number, 3, payload);
    }

    void gone(Circuit c) {
        c.state = 2;
        for (Near s : c.streams) {
            s.state = 2;
        }
    }

    void destroyed(Circuit c) {
        send(c.client.id, c.path.get(0).id, c.number, 4, new byte[0]);
        gone(c);
    }

    void sendBack(Relay r, Entry e, int command, int stream, byte[] data) {
        byte[] payload = e.keys.backward.make(command, stream, data);
        send(r.id, e.fromNode, e.fromNumber, 3, e.keys.backward.crypt(payload));
    }

    void destroyed(Relay r, Entry e) {
        send(r.id, e.fromNode, e.fromNumber, 4, new byte[0]);
        if (e.onNode != NONE) {
            send(r.id, e.onNode, e.onNumber, 4, new byte[0]);
        }
        r.entries.remove(e);
    }

    void relayTakes(Relay r, int from, int number, int command, byte[] payload) {
        Entry came = null;
        Entry on = null;
        for (Entry e : r.entries) {
            came = e.fromNode == from && e.fromNumber == number ? e : came;
            on = e.onNode == from && e.onNumber == number ? e : on;
        }
        if (command == 10) {
            boolean own = Arrays.equals(Crypto.join(r.mark, r.key), Arrays.copyOf(payload, 36));
            if (came != null || r.entries.size() == 12 || !own) {
                send(r.id, from, number, 4, new byte[0]);
            } else {
                created(r, from, number, Arrays.copyOfRange(payload, 36, 68));
            }
        } else if (command == 4 && came != null) {
            if (came.onNode != NONE) {
                send(r.id, came.onNode, came.onNumber, 4, new byte[0]);
            }
            r.entries.remove(came);
        } else if (command == 4 && on != null) {
            send(r.id, on.fromNode, on.fromNumber, 4, new byte[0]);
            r.entries.remove(on);
        } else if (command == 11 && on != null && on.waits) {
            on.waits = false;
            sendBack(r, on, 15, 0, Arrays.copyOf(payload, 64));
        } else if (command == 3 && came != null) {
            byte[] bare = came.keys.forward.crypt(payload);
            if (came.keys.forward.recognizes(bare)) {
                done(r, came, bare);
            } else if (came.onNode == NONE || came.waits) {
                destroyed(r, came);
            } else {
                send(r.id, came.onNode, came.onNumber, 3, bare);
            }
        } else if (command == 3 && on != null && !on.waits) {
            send(r.id, on.fromNode, on.fromNumber, 3, on.keys.backward.crypt(payload));
        }
    }

    void created(Relay r, int from, int number, byte[] x) {
        byte[] y = r.draw();
        byte[] point = Crypto.curve(y, Crypto.base());
        byte[] s = agreed(Crypto.curve(y, x), Crypto.curve(r.secret, x), r, x, point);
        Entry e = new Entry();
        e.fromNode = from;
        e.fromNumber = number;
        e.keys = new Keys(s);
        r.entries.add(e);
        send(r.id, from, number, 11, Crypto.join(point, proof(s)));
    }

    void done(Relay r, Entry e, byte[] payload) {
        int stream = (payload[3] & 255) << 8 | payload[4] & 255;
        byte[] data = data(payload);
        Far s = e.streams.get(stream);
        switch (payload[0] & 255) {
            case 14:
                if (data.length == 69 && isRelay(data[0] & 255) && (data[0] & 255) != r.id && e.onNode == NONE) {
                    e.onNode = data[0] & 255;
                    e.onNumber = r.given++;
                    e.waits = true;
                    send(r.id, e.onNode, e.onNumber, 10, Arrays.copyOfRange(data, 1, 69));
                } else {
                    destroyed(r, e);
                }
                break;
            case 1:
                if (data.length != 1 || s != null) {
                    destroyed(r, e);
                } else if (e.streams.size() < 4 && (data[0] == 1 || data[0] == 2)) {
                    s = new Far();
                    s.service = data[0];
                    e.streams.put(stream, s);
                    sendBack(r, e, 4, stream, new byte[0]);
                } else {
                    sendBack(r, e, 3, stream, new byte[0]);
                }
                break;
            case 2:
                if (s != null) {
                    farData(r, e, s, stream, data);
                }
                break;
            case 3:
                e.streams.remove(stream);
                break;
            case 5:
                if (s != null) {
                    s.window += 2;
                }
                break;
            default:
                destroyed(r, e);
        }
    }

    void farData(Relay r, Entry e, Far s, int stream, byte[] data) {
        if (++s.datas % 2 == 0) {
            sendBack(r, e, 5, stream, new byte[0]);
        }
        if (s.service == 2) {
            r.kept.write(data, 0, Math.min(data.length, 2000 - r.kept.size()));
        } else if (s.window > 0) {
            s.window--;
            sendBack(r, e, 2, stream, data);
        }
    }

    void clientTakes(int client, int from, int number, int command, byte[] payload) {
        for (Circuit c : circuits) {
            if (c.client.id == client && c.path.get(0).id == from && c.number == number && c.state != 2) {
                if (command == 11 && c.keys.isEmpty()) {
                    answered(c, payload);
                } else if (command == 4) {
                    gone(c);
                } else if (command == 3 && !c.keys.isEmpty()) {
                    relayed(c, payload);
                }
                return;
            }
        }
    }

    void answered(Circuit c, byte[] answer) {
        Relay relay = c.path.get(c.keys.size());
        byte[] y = Arrays.copyOf(answer, 32);
        byte[] s = agreed(Crypto.curve(c.x, y), Crypto.curve(c.x, relay.key), relay,
                Crypto.curve(c.x, Crypto.base()), y);
        if (!Arrays.equals(proof(s), Arrays.copyOfRange(answer, 32, 64))) {
            destroyed(c);
            return;
        }
        c.keys.add(new Keys(s));
        if (c.keys.size() == c.path.size()) {
            c.state = 1;
        } else {
            byte[] offer = offer(c);
            toLast(c, 14, 0, Crypto.join(Crypto.one(c.path.get(c.keys.size()).id), offer));
        }
    }

    void relayed(Circuit c, byte[] wrapped) {
        byte[] payload = wrapped;
        int by = NONE;
        for (int hop = 0; hop < c.keys.size() && by == NONE; hop++) {
            payload = c.keys.get(hop).backward.crypt(payload);
            by = c.keys.get(hop).backward.recognizes(payload) ? hop : NONE;
        }
        if (by == NONE || by != c.keys.size() - 1) {
            destroyed(c);
            return;
        }
        int stream = (payload[3] & 255) << 8 | payload[4] & 255;
        Near s = stream < 1 || stream > c.streams.size() ? null : c.streams.get(stream - 1);
        int command = payload[0] & 255;
        if (command == 15 && c.state == 0 && length(payload) == 64) {
            answered(c, data(payload));
        } else if (command < 2 || command > 5) {
            destroyed(c);
        } else if (s != null && s.state != 2) {
            nearTakes(c, s, stream, command, data(payload));
        }
    }

    void nearTakes(Circuit c, Near s, int stream, int command, byte[] data) {
        if (command == 4 && s.state == 0) {
            s.state = 1;
        } else if (command == 2 && s.state == 1) {
            if (++s.datas % 2 == 0) {
                toLast(c, 5, stream, new byte[0]);
            }
            s.kept.write(data, 0, Math.min(data.length, 2000 - s.kept.size()));
        } else if (command == 3) {
            s.state = 2;
        } else if (command == 5) {
            s.window += 2;
        }
    }
}
