import java.util.Arrays;

/** Each promise of the document by itself: ordinary inputs, the edges it names, wrong inputs. */
public final class PromiseTest {
    private static final int NONE = OnionNet.NONE;
    private static final int LOW = Integer.MIN_VALUE;
    private static final int HIGH = Integer.MAX_VALUE;
    private static final Due DUE = new Due();

    private PromiseTest() {
    }

    public static void main(String[] args) {
        promise01NewObject();
        promise02Relay();
        promise03Client();
        promise04Key();
        promise05Weigh();
        promise06Path();
        promise07Seal();
        promise08Circuit();
        promise08CreateCell();
        promise09Stream();
        promise10Put();
        promise11Push();
        promise12Close();
        promise13Destroy();
        promise14Deliver();
        promise15Drop();
        promise16Alter();
        promise17Waiting();
        promise18Look();
        promise19Settle();
        promise20State();
        promise21Hops();
        promise22Told();
        promise23Got();
        promise24Kept();
        promise25Has();
        DUE.end();
    }

    /** Relays of the seeds 1, 2, .. and clients of the seeds 101, 102. */
    private static OnionNet net(int relays, int clients) {
        OnionNet net = new OnionNet();
        for (int i = 1; i <= relays; i++) {
            net.relay(i);
        }
        for (int i = 1; i <= clients; i++) {
            net.client(100 + i);
        }
        return net;
    }

    private static OnionNet opened(int hops, int port) {
        OnionNet net = net(3, 1);
        net.circuit(8, 0, hops > 1 ? 1 : NONE, hops > 2 ? 2 : NONE);
        net.settle(200);
        net.stream(0, port);
        net.settle(200);
        return net;
    }

    private static void promise01NewObject() {
        OnionNet net = new OnionNet();
        DUE.is("new key", net.key(0, 0), NONE);
        DUE.is("new has", net.has(0, 0), NONE);
        DUE.is("new kept", net.kept(0, 0), NONE);
        DUE.no("new weigh", net.weigh(0, 1));
        DUE.is("new path", net.path(0, 0), NONE);
        DUE.is("new seal", net.seal(0), Crypto.sha(Crypto.NAME, Crypto.one(6))[0] & 255);
        DUE.is("new circuit", net.circuit(8, 0, NONE, NONE), NONE);
        DUE.is("new state", net.state(0), NONE);
        DUE.is("new waiting", net.waiting(0, 8), NONE);
        DUE.is("new deliver", net.deliver(8, 0), NONE);
        DUE.is("new settle", net.settle(1), 0);
        net.relay(1);
        DUE.is("another object has no relays", new OnionNet().key(0, 0), NONE);
        DUE.is("constant", OnionNet.NONE, -1);
    }

    private static void promise02Relay() {
        OnionNet net = new OnionNet();
        for (int i = 0; i < 6; i++) {
            DUE.is("relay number", net.relay(i), i);
        }
        DUE.is("seventh relay", net.relay(6), NONE);
        DUE.is("no seventh", net.key(6, 0), NONE);
        DUE.is("weight 10, last of the first", net.path(9, 0), 0);
        DUE.is("weight 10, first of the second", net.path(10, 0), 1);
        DUE.is("weight 10, last of all", net.path(59, 0), 5);
        DUE.is("weight 10, round", net.path(60, 0), 0);
        DUE.is("link between relays", net.waiting(5, 0), 0);
        net.client(1);
        DUE.is("link to a client", net.waiting(5, 8), 0);
        OnionNet same = new OnionNet();
        same.relay(77);
        same.relay(77);
        for (int i = 0; i < 36; i++) {
            DUE.is("the same seed, the same key", same.key(0, i), same.key(1, i));
        }
    }

    private static void promise03Client() {
        OnionNet net = new OnionNet();
        DUE.is("client", net.client(-1), 8);
        DUE.is("second client", net.client(-1), 9);
        DUE.is("third client", net.client(-1), NONE);
        DUE.is("link between clients", net.waiting(8, 9), 0);
        DUE.is("no relay by that", net.has(8, 0), NONE);
        net.relay(1);
        DUE.is("its link", net.waiting(9, 0), 0);
        DUE.is("it may begin circuits", net.circuit(9, 0, NONE, NONE), 0);
    }

    private static void promise04Key() {
        long[] seeds = {0, 1, -1, Long.MIN_VALUE, 0x0123456789ABCDEFL, 255};
        OnionNet net = new OnionNet();
        for (int r = 0; r < seeds.length; r++) {
            net.relay(seeds[r]);
            byte[] want = Crypto.keyAndMark(seeds[r]);
            for (int i = 0; i < 36; i++) {
                DUE.is("key " + seeds[r], net.key(r, i), want[i] & 255);
            }
        }
        for (int i : new int[] {-1, 36, LOW, HIGH}) {
            DUE.is("no such byte of a key", net.key(0, i), NONE);
        }
        net.client(1);
        for (int r : new int[] {-1, 6, 7, 8, LOW, HIGH}) {
            DUE.is("key of no relay", net.key(r, 0), NONE);
        }
    }

    private static void promise05Weigh() {
        OnionNet net = net(2, 1);
        DUE.yes("weigh 0", net.weigh(0, 0));
        DUE.is("it is never drawn", net.path(0, 0), 1);
        DUE.yes("weigh 1000", net.weigh(0, 1000));
        DUE.is("it has all of it", net.path(999, 0), 0);
        DUE.is("and no more", net.path(1000, 0), 1);
        for (int w : new int[] {-1, 1001, LOW, HIGH}) {
            DUE.no("weigh wrong", net.weigh(0, w));
        }
        DUE.is("the weight stays", net.path(999, 0), 0);
        for (int r : new int[] {-1, 2, 8, LOW, HIGH}) {
            DUE.no("weigh no relay", net.weigh(r, 1));
        }
    }

    private static void promise06Path() {
        OnionNet net = net(3, 0);
        net.weigh(0, 5);
        net.weigh(1, 0);
        net.weigh(2, 7);
        DUE.is("under 5", net.path(4, 0), 0);
        DUE.is("5 goes past the weight 0", net.path(5, 0), 2);
        DUE.is("modulo 12", net.path(12, 0), 0);
        DUE.is("twenty bits alone", net.path(1L << 20 | 4, 0), 0);
        DUE.is("all twenty", net.path(0xFFFFF, 0), 0xFFFFF % 12 < 5 ? 0 : 2);
        DUE.is("what is left", net.path(0, 1), 2);
        DUE.is("what is left else", net.path(5, 1), 0);
        DUE.is("none is left", net.path(0, 2), NONE);
        net.weigh(1, 3);
        DUE.is("the third", net.path(0, 2), 2);
        DUE.is("second by its own bits", net.path(2L << 20, 1), 1);
        DUE.is("second by its own bits", net.path(3L << 20, 1), 2);
        DUE.is("third by its own bits", net.path(3L << 20 | 2L << 40, 2), 1);
        DUE.is("high bits count nothing", net.path(-1L << 60, 2), net.path(0, 2));
        for (int k : new int[] {-1, 3, LOW, HIGH}) {
            DUE.is("path of other k", net.path(0, k), NONE);
        }
        DUE.is("no fourth, though some are left", net(6, 0).path(0, 3), NONE);
        net.weigh(0, 0);
        net.weigh(1, 0);
        net.weigh(2, 0);
        DUE.is("all weigh 0", net.path(0, 0), NONE);
    }

    private static void promise07Seal() {
        for (int relays = 0; relays <= 6; relays++) {
            OnionNet net = net(relays, 2);
            int[] weights = new int[relays];
            Arrays.fill(weights, 10);
            for (int i = 0; i < 32; i++) {
                DUE.is("seal of " + relays, net.seal(i), Crypto.seal(weights)[i] & 255);
            }
        }
        OnionNet net = net(2, 0);
        net.weigh(1, 1000);
        DUE.is("seal with a weight of two bytes", net.seal(31), Crypto.seal(new int[] {10, 1000})[31] & 255);
        for (int i : new int[] {-1, 32, LOW, HIGH}) {
            DUE.is("no such byte of a seal", net.seal(i), NONE);
        }
    }

    private static void promise08Circuit() {
        OnionNet net = net(3, 1);
        int[][] wrong = {{8, NONE, NONE, NONE}, {8, 3, NONE, NONE}, {8, 0, 3, NONE}, {8, 0, 1, 3}, {8, 0, NONE, 1},
            {8, 0, 0, NONE}, {8, 0, 1, 0}, {8, 0, 1, 1}, {9, 0, 1, 2}, {10, 0, 1, 2}, {7, 0, 1, 2}, {0, 0, 1, 2},
            {8, -2, 1, 2}, {8, 0, -2, NONE}, {8, 0, -2, 1}, {8, 0, 1, -2}, {LOW, 0, 1, 2}, {HIGH, 0, 1, 2},
            {8, LOW, 1, 2}, {8, HIGH, 1, 2}, {8, 0, LOW, 2}, {8, 0, 1, HIGH}, {8, 8, NONE, NONE}, {NONE, 0, 1, 2}};
        for (int[] w : wrong) {
            DUE.is("circuit " + Arrays.toString(w), net.circuit(w[0], w[1], w[2], w[3]), NONE);
        }
        DUE.is("nothing was sent", net.waiting(8, 0), 0);
        net.client(5);
        DUE.is("over one", net.circuit(8, 2, NONE, NONE), 0);
        DUE.is("over two", net.circuit(9, 2, 1, NONE), 1);
        DUE.is("over three", net.circuit(8, 2, 0, 1), 2);
        DUE.is("first of its client", net.look(9, 2, 0, 3), 1);
        DUE.is("second of its client", net.look(8, 2, 1, 3), 2);
        net.settle(200);
        DUE.is("over one is open", net.hops(0), 1);
        DUE.is("over two is open", net.hops(1), 2);
        DUE.is("over three is open", net.hops(2), 3);
        DUE.yes("gone ones count", net.destroy(0));
        DUE.is("fourth", net.circuit(8, 0, NONE, NONE), 3);
        DUE.is("fifth", net.circuit(8, 0, NONE, NONE), 4);
        DUE.is("sixth", net.circuit(8, 0, NONE, NONE), 5);
        DUE.is("seventh", net.circuit(8, 0, NONE, NONE), NONE);
        DUE.is("the seventh sent nothing", net.waiting(8, 0), 3);
    }

    private static void promise08CreateCell() {
        OnionNet net = net(2, 1);
        net.circuit(8, 1, NONE, NONE);
        net.circuit(8, 1, 0, NONE);
        byte[] key = Crypto.keyAndMark(2);
        for (int n = 0; n < 2; n++) {
            byte[] want = Arrays.copyOf(Crypto.join(Crypto.number(n + 1, 4), Crypto.one(10),
                    Arrays.copyOfRange(key, 32, 36), Arrays.copyOf(key, 32),
                    Crypto.curve(Crypto.draw(101, n), Crypto.base())), 140);
            for (int i = 0; i < 140; i++) {
                DUE.is("byte " + i + " of CREATE", net.look(8, 1, n, i), want[i] & 255);
            }
        }
        net.deliver(8, 1);
        byte[] y = Crypto.draw(2, 0);
        byte[] big = Crypto.curve(y, Crypto.base());
        byte[] x = Crypto.curve(Crypto.draw(101, 0), Crypto.base());
        byte[] s = Crypto.join(Crypto.curve(y, x), Crypto.curve(Crypto.secret(2), x), Arrays.copyOfRange(key, 32, 36),
                Arrays.copyOf(key, 32), x, big, Crypto.NAME);
        byte[] want = Arrays.copyOf(Crypto.join(Crypto.number(1, 4), Crypto.one(11), big,
                Crypto.hmac(Crypto.join(Crypto.NAME, Crypto.one(4)), s)), 140);
        for (int i = 0; i < 140; i++) {
            DUE.is("byte " + i + " of CREATED", net.look(1, 8, 0, i), want[i] & 255);
        }
    }

    private static void promise09Stream() {
        OnionNet net = net(2, 1);
        net.circuit(8, 0, 1, NONE);
        DUE.is("stream of a building one", net.stream(0, 1), NONE);
        net.settle(200);
        for (int port : new int[] {-1, 256, LOW, HIGH}) {
            DUE.is("wrong port", net.stream(0, port), NONE);
        }
        for (int c : new int[] {-1, 1, 6, LOW, HIGH}) {
            DUE.is("stream of no circuit", net.stream(c, 1), NONE);
        }
        DUE.is("nothing was sent", net.waiting(8, 0), 0);
        DUE.is("first", net.stream(0, 0), 1);
        DUE.is("second", net.stream(0, 255), 2);
        DUE.is("third", net.stream(0, 1), 3);
        DUE.is("fourth", net.stream(0, 2), 4);
        DUE.is("fifth", net.stream(0, 1), NONE);
        DUE.is("four cells", net.waiting(8, 0), 4);
        DUE.is("they are RELAY", net.look(8, 0, 3, 4), 3);
        DUE.is("a new one waits", net.told(0, 1, 0), 0);
        DUE.is("with a window of 4", net.told(0, 1, 1), 4);
        DUE.is("to and fro", net.settle(200), 16);
        DUE.is("port 0 is refused", net.told(0, 1, 0), 2);
        DUE.is("port 255 is refused", net.told(0, 2, 0), 2);
        DUE.is("ECHO", net.told(0, 3, 0), 1);
        DUE.is("KEEP", net.told(0, 4, 0), 1);
        DUE.is("the last hop has them", net.has(1, 1), 2);
        DUE.is("the first one none", net.has(0, 1), 0);
        net.close(0, 3);
        DUE.is("gone ones count", net.stream(0, 1), NONE);
        net.destroy(0);
        DUE.is("stream of a gone one", net.stream(0, 1), NONE);
    }

    private static void promise10Put() {
        OnionNet net = net(1, 1);
        net.circuit(8, 0, NONE, NONE);
        net.settle(200);
        net.stream(0, 1);
        DUE.yes("put while it waits", net.put(0, 1, 0x12345678));
        DUE.yes("put below zero", net.put(0, 1, -1));
        net.settle(200);
        DUE.is("push", net.push(0, 1), 2);
        net.settle(200);
        DUE.is("lowest eight bits", net.got(0, 1, 0), 0x78);
        DUE.is("lowest eight bits", net.got(0, 1, 1), 255);
        for (int i = 0; i < 400; i++) {
            DUE.yes("put " + i, net.put(0, 1, i));
        }
        DUE.no("put the 401st", net.put(0, 1, 1));
        DUE.is("400 wait", net.told(0, 1, 2), 400);
        for (int s : new int[] {-1, 0, 2, LOW, HIGH}) {
            DUE.no("put to no stream", net.put(0, s, 1));
        }
        for (int c : new int[] {-1, 1, LOW, HIGH}) {
            DUE.no("put to no circuit", net.put(c, 1, 1));
        }
        net.push(0, 1);
        DUE.yes("room again", net.put(0, 1, 1));
        net.close(0, 1);
        DUE.no("put to a gone one", net.put(0, 1, 1));
        DUE.is("what waits is told as it was", net.told(0, 1, 2), 277);
    }

    private static void promise11Push() {
        OnionNet net = net(1, 1);
        net.circuit(8, 0, NONE, NONE);
        net.settle(200);
        net.stream(0, 2);
        net.put(0, 1, 7);
        DUE.is("push while it waits", net.push(0, 1), 0);
        net.settle(200);
        for (int i = 1; i < 126; i++) {
            net.put(0, 1, 7 + i);
        }
        DUE.is("124 at most", net.push(0, 1), 124);
        DUE.is("the window is less", net.told(0, 1, 1), 3);
        DUE.is("two are left", net.told(0, 1, 2), 2);
        DUE.is("the rest", net.push(0, 1), 2);
        DUE.is("none waits", net.push(0, 1), 0);
        DUE.is("the window stays", net.told(0, 1, 1), 2);
        DUE.is("two were sent", net.waiting(8, 0), 2);
        net.put(0, 1, 1);
        DUE.is("third", net.push(0, 1), 1);
        net.put(0, 1, 2);
        DUE.is("fourth", net.push(0, 1), 1);
        net.put(0, 1, 3);
        DUE.is("the window is 0", net.push(0, 1), 0);
        DUE.is("nothing was sent", net.waiting(8, 0), 4);
        net.settle(200);
        DUE.is("two SENDME", net.told(0, 1, 1), 4);
        DUE.is("in order, the first", net.kept(0, 0), 7);
        DUE.is("in order, the 124th", net.kept(0, 123), 130);
        DUE.is("in order, the 126th", net.kept(0, 125), 132);
        DUE.is("in order, the last", net.kept(0, 127), 2);
        for (int s : new int[] {-1, 0, 2, LOW, HIGH}) {
            DUE.is("push of no stream", net.push(0, s), NONE);
        }
        for (int c : new int[] {-1, 1, LOW, HIGH}) {
            DUE.is("push of no circuit", net.push(c, 1), NONE);
        }
        net.destroy(0);
        DUE.is("push of a gone one", net.push(0, 1), 0);
    }

    private static void promise12Close() {
        OnionNet net = opened(2, 1);
        DUE.is("it is there", net.has(1, 1), 1);
        for (int s : new int[] {-1, 0, 2, LOW, HIGH}) {
            DUE.no("close no stream", net.close(0, s));
        }
        for (int c : new int[] {-1, 1, LOW, HIGH}) {
            DUE.no("close in no circuit", net.close(c, 1));
        }
        DUE.yes("close", net.close(0, 1));
        DUE.is("it is gone", net.told(0, 1, 0), 2);
        DUE.is("END was sent", net.waiting(8, 0), 1);
        DUE.no("close again", net.close(0, 1));
        DUE.is("nothing more was sent", net.settle(200), 2);
        DUE.is("it is there no more", net.has(1, 1), 0);
        DUE.is("the circuit stays", net.state(0), 1);
        net.stream(0, 2);
        DUE.yes("close one that waits", net.close(0, 2));
        net.settle(200);
        DUE.is("CONNECTED comes too late", net.told(0, 2, 0), 2);
        DUE.is("and the relay knows of END", net.has(1, 1), 0);
        DUE.is("the circuit stays", net.state(0), 1);
    }

    private static void promise13Destroy() {
        OnionNet net = opened(3, 1);
        for (int c : new int[] {-1, 1, LOW, HIGH}) {
            DUE.no("destroy none", net.destroy(c));
        }
        DUE.yes("destroy", net.destroy(0));
        DUE.is("gone", net.state(0), 2);
        DUE.is("its stream too", net.told(0, 1, 0), 2);
        DUE.is("DESTROY", net.look(8, 0, 0, 4), 4);
        DUE.is("of its number", net.look(8, 0, 0, 3), 1);
        DUE.is("with nothing else", net.look(8, 0, 0, 5), 0);
        DUE.no("destroy again", net.destroy(0));
        DUE.is("one cell a link", net.settle(200), 3);
        for (int r = 0; r < 3; r++) {
            DUE.is("no entry", net.has(r, 0), 0);
        }
        net.circuit(8, 1, 0, NONE);
        DUE.yes("destroy a building one", net.destroy(1));
        DUE.is("CREATE, CREATED, DESTROY", net.settle(200), 3);
        DUE.is("it stays gone", net.state(1), 2);
        DUE.is("without a hop", net.hops(1), 0);
        DUE.is("no entry", net.has(1, 0), 0);
    }

    private static void promise14Deliver() {
        OnionNet net = net(2, 1);
        net.circuit(8, 0, 1, NONE);
        int[][] none = {{0, 8}, {0, 0}, {8, 8}, {8, 9}, {8, 2}, {6, 0}, {-1, 0}, {0, -1}, {LOW, 0}, {0, HIGH}, {10, 0}};
        for (int[] link : none) {
            DUE.is("deliver " + Arrays.toString(link), net.deliver(link[0], link[1]), NONE);
        }
        DUE.is("CREATE", net.deliver(8, 0), 10);
        DUE.is("it is off the link", net.waiting(8, 0), 0);
        DUE.is("CREATED", net.deliver(0, 8), 11);
        DUE.is("EXTEND", net.deliver(8, 0), 3);
        DUE.is("CREATE", net.deliver(0, 1), 10);
        DUE.is("CREATED", net.deliver(1, 0), 11);
        DUE.is("EXTENDED", net.deliver(0, 8), 3);
        DUE.is("open", net.state(0), 1);
        net.stream(0, 1);
        net.alter(8, 0, 4, 0xF0);
        DUE.is("any byte", net.deliver(8, 0), 0xF3);
        DUE.is("it is left out", net.settle(200), 0);
        net.circuit(8, 0, NONE, NONE);
        net.circuit(8, 0, NONE, NONE);
        net.deliver(8, 0);
        DUE.is("the first one first", net.look(0, 8, 0, 3), 2);
        net.destroy(0);
        net.drop(8, 0);
        DUE.is("DESTROY", net.deliver(8, 0), 4);
    }

    private static void promise15Drop() {
        OnionNet net = net(2, 1);
        net.circuit(8, 0, NONE, NONE);
        net.circuit(8, 0, NONE, NONE);
        int[][] none = {{0, 8}, {0, 0}, {8, 9}, {8, 2}, {6, 0}, {-1, 0}, {0, -1}, {LOW, 0}, {0, HIGH}};
        for (int[] link : none) {
            DUE.no("drop " + Arrays.toString(link), net.drop(link[0], link[1]));
        }
        DUE.yes("drop", net.drop(8, 0));
        DUE.is("one is left", net.waiting(8, 0), 1);
        DUE.is("the second", net.look(8, 0, 0, 3), 2);
        net.settle(200);
        DUE.is("the first builds", net.state(0), 0);
        DUE.is("the second is open", net.state(1), 1);
        DUE.no("drop of none", net.drop(8, 0));
        net.stream(1, 1);
        DUE.yes("drop BEGIN", net.drop(8, 0));
        net.stream(1, 1);
        net.settle(200);
        DUE.is("the cipher is out of step", net.state(1), 2);
    }

    private static void promise16Alter() {
        OnionNet net = net(1, 1);
        DUE.no("alter none", net.alter(8, 0, 0, 1));
        net.circuit(8, 0, NONE, NONE);
        for (int at : new int[] {-1, 140, LOW, HIGH}) {
            DUE.no("alter at " + at, net.alter(8, 0, at, 1));
        }
        for (int mask : new int[] {-1, 0, 256, LOW, HIGH}) {
            DUE.no("alter by " + mask, net.alter(8, 0, 0, mask));
        }
        int[][] none = {{0, 8}, {8, 8}, {9, 0}, {8, 1}, {-1, 0}, {LOW, 0}, {8, HIGH}};
        for (int[] link : none) {
            DUE.no("alter " + Arrays.toString(link), net.alter(link[0], link[1], 0, 1));
        }
        net.circuit(8, 0, NONE, NONE);
        DUE.yes("first byte", net.alter(8, 0, 0, 255));
        DUE.is("it is changed", net.look(8, 0, 0, 0), 255);
        DUE.is("the second cell is not", net.look(8, 0, 1, 0), 0);
        DUE.yes("and back", net.alter(8, 0, 0, 255));
        DUE.yes("last byte", net.alter(8, 0, 139, 1));
        DUE.is("it is changed", net.look(8, 0, 0, 139), 1);
        net.settle(200);
        DUE.is("behind the 68 bytes nothing counts", net.state(0), 1);
        net.circuit(8, 0, NONE, NONE);
        net.alter(8, 0, 40, 1);
        DUE.is("another KEY", net.deliver(8, 0), 10);
        DUE.is("DESTROY", net.deliver(0, 8), 4);
        DUE.is("gone", net.state(2), 2);
        net.circuit(8, 0, NONE, NONE);
        net.alter(8, 0, 41, 1);
        net.settle(200);
        DUE.is("another X: the answer is not right", net.state(3), 2);
        DUE.is("and the entry is gone", net.has(0, 0), 2);
        net.circuit(8, 0, NONE, NONE);
        net.deliver(8, 0);
        net.alter(0, 8, 68, 1);
        net.deliver(0, 8);
        DUE.is("the last byte of an answer", net.state(4), 2);
        net.circuit(8, 0, NONE, NONE);
        net.settle(2);
        net.alter(0, 8, 69, 1);
        net.deliver(0, 8);
        DUE.is("the byte behind it", net.state(5), 1);
    }

    private static void promise17Waiting() {
        OnionNet net = net(2, 1);
        int[][] none = {{0, 0}, {8, 8}, {0, 2}, {0, 6}, {0, 7}, {7, 0}, {0, 9}, {0, 10}, {10, 0}, {-1, 0}, {0, -1},
            {LOW, 0}, {0, LOW}, {HIGH, 0}, {0, HIGH}};
        for (int[] link : none) {
            DUE.is("waiting " + Arrays.toString(link), net.waiting(link[0], link[1]), NONE);
        }
        DUE.is("nothing", net.waiting(0, 1), 0);
        net.circuit(8, 0, NONE, NONE);
        net.circuit(8, 0, NONE, NONE);
        net.circuit(8, 0, NONE, NONE);
        DUE.is("three", net.waiting(8, 0), 3);
        net.settle(200);
        for (int i = 0; i < 12; i++) {
            DUE.is("stream", net.stream(i / 4, 1), 1 + i % 4);
            DUE.is("eight at most", net.waiting(8, 0), Math.min(8, i + 1));
        }
        DUE.is("eight to and eight fro", net.settle(200), 16);
        DUE.is("the eighth is connected", net.told(1, 4, 0), 1);
        DUE.is("the ninth was lost", net.told(2, 1, 0), 0);
        DUE.is("for the sender it was sent", net.told(2, 4, 0), 0);
        DUE.yes("the cipher goes on", net.close(2, 1));
        net.settle(200);
        DUE.is("so the relay knows nothing of it", net.state(2), 2);
    }

    private static void promise18Look() {
        OnionNet net = net(1, 1);
        net.circuit(8, 0, NONE, NONE);
        net.circuit(8, 0, NONE, NONE);
        DUE.is("the first cell", net.look(8, 0, 0, 3), 1);
        DUE.is("the second cell", net.look(8, 0, 1, 3), 2);
        DUE.is("the last byte", net.look(8, 0, 1, 139), 0);
        int[][] none = {{8, 0, 2, 0}, {8, 0, -1, 0}, {8, 0, 0, -1}, {8, 0, 0, 140}, {0, 8, 0, 0}, {0, 0, 0, 0},
            {9, 0, 0, 0}, {8, 0, LOW, 0}, {8, 0, HIGH, 0}, {8, 0, 0, LOW}, {8, 0, 0, HIGH}, {LOW, 0, 0, 0},
            {8, HIGH, 0, 0}};
        for (int[] at : none) {
            DUE.is("look " + Arrays.toString(at), net.look(at[0], at[1], at[2], at[3]), NONE);
        }
        net.drop(8, 0);
        DUE.is("the second is first now", net.look(8, 0, 0, 3), 2);
        DUE.is("and there is no other", net.look(8, 0, 1, 3), NONE);
    }

    private static void promise19Settle() {
        OnionNet net = net(3, 2);
        for (int n : new int[] {-1, 0, 201, LOW, HIGH}) {
            DUE.is("settle " + n, net.settle(n), NONE);
        }
        DUE.is("nothing to do", net.settle(200), 0);
        net.circuit(8, 0, NONE, NONE);
        net.circuit(9, 1, NONE, NONE);
        net.circuit(8, 1, NONE, NONE);
        DUE.is("one", net.settle(1), 1);
        DUE.is("from 8 to 0 comes first", net.waiting(0, 8), 1);
        DUE.is("one more starts anew", net.settle(1), 1);
        DUE.is("relays before clients", net.state(0), 1);
        DUE.is("two more", net.settle(2), 2);
        DUE.is("from 8 to 1", net.waiting(1, 8), 1);
        DUE.is("from 9 to 1 before a new round", net.waiting(9, 1), 0);
        DUE.is("the rest", net.settle(200), 2);
        DUE.is("all is open", net.state(1), 1);
        net.circuit(8, 0, 1, 2);
        DUE.is("exactly so many", net.settle(12), 12);
        DUE.is("open", net.state(3), 1);
        net.circuit(8, 2, NONE, NONE);
        net.circuit(8, 2, NONE, NONE);
        DUE.is("a round has one of each link", net.settle(3), 3);
        DUE.is("second CREATE, then its answer", net.state(4), 1);
        DUE.is("second answer waits", net.waiting(2, 8), 1);
    }

    private static void promise20State() {
        OnionNet net = net(2, 1);
        net.circuit(8, 0, 1, NONE);
        DUE.is("building", net.state(0), 0);
        DUE.is("five of six", net.settle(5), 5);
        DUE.is("still building", net.state(0), 0);
        net.settle(1);
        DUE.is("open", net.state(0), 1);
        net.destroy(0);
        DUE.is("gone", net.state(0), 2);
        for (int c : new int[] {-1, 1, 6, LOW, HIGH}) {
            DUE.is("state of none", net.state(c), NONE);
        }
    }

    private static void promise21Hops() {
        OnionNet net = net(3, 1);
        net.circuit(8, 0, 1, 2);
        DUE.is("none", net.hops(0), 0);
        net.settle(2);
        DUE.is("one", net.hops(0), 1);
        net.settle(4);
        DUE.is("two", net.hops(0), 2);
        net.settle(6);
        DUE.is("three", net.hops(0), 3);
        net.destroy(0);
        DUE.is("as it was", net.hops(0), 3);
        for (int c : new int[] {-1, 1, 6, LOW, HIGH}) {
            DUE.is("hops of none", net.hops(c), NONE);
        }
        net.settle(200);
        net.circuit(8, 1, 0, NONE);
        net.settle(2);
        net.deliver(8, 1);
        net.deliver(1, 0);
        net.alter(0, 1, 5, 1);
        net.settle(200);
        DUE.is("a wrong answer is no hop", net.hops(1), 1);
        DUE.is("and destroys", net.state(1), 2);
    }

    private static void promise22Told() {
        OnionNet net = net(1, 1);
        net.circuit(8, 0, NONE, NONE);
        net.settle(200);
        net.stream(0, 1);
        net.stream(0, 9);
        DUE.is("WAITING", net.told(0, 1, 0), 0);
        net.settle(200);
        DUE.is("OPEN", net.told(0, 1, 0), 1);
        DUE.is("GONE", net.told(0, 2, 0), 2);
        DUE.is("a window of 4", net.told(0, 1, 1), 4);
        for (int i = 0; i < 3; i++) {
            net.put(0, 1, i);
        }
        DUE.is("three wait", net.told(0, 1, 2), 3);
        DUE.is("nothing is kept", net.told(0, 1, 3), 0);
        net.push(0, 1);
        DUE.is("a window of 3", net.told(0, 1, 1), 3);
        DUE.is("none waits", net.told(0, 1, 2), 0);
        net.settle(200);
        DUE.is("three are kept", net.told(0, 1, 3), 3);
        DUE.is("no SENDME for the first", net.told(0, 1, 1), 3);
        net.put(0, 1, 9);
        net.push(0, 1);
        net.settle(200);
        DUE.is("one for the second", net.told(0, 1, 1), 4);
        net.put(0, 1, 9);
        net.destroy(0);
        DUE.is("gone", net.told(0, 1, 0), 2);
        DUE.is("the window as it was", net.told(0, 1, 1), 4);
        DUE.is("what waits as it was", net.told(0, 1, 2), 1);
        DUE.is("what was kept as it was", net.told(0, 1, 3), 4);
        for (int what : new int[] {-1, 4, LOW, HIGH}) {
            DUE.is("told of others", net.told(0, 1, what), NONE);
        }
        for (int s : new int[] {-1, 0, 3, LOW, HIGH}) {
            DUE.is("told of no stream", net.told(0, s, 0), NONE);
        }
        for (int c : new int[] {-1, 1, LOW, HIGH}) {
            DUE.is("told of no circuit", net.told(c, 1, 0), NONE);
        }
    }

    private static void promise23Got() {
        OnionNet net = opened(3, 1);
        for (int i = 0; i < 3; i++) {
            net.put(0, 1, 250 + i);
            net.push(0, 1);
            net.settle(200);
        }
        for (int i = 0; i < 3; i++) {
            DUE.is("byte " + i, net.got(0, 1, i), 250 + i);
        }
        for (int i : new int[] {-1, 3, LOW, HIGH}) {
            DUE.is("no such byte", net.got(0, 1, i), NONE);
        }
        for (int s : new int[] {-1, 0, 2, LOW, HIGH}) {
            DUE.is("got of no stream", net.got(0, s, 0), NONE);
        }
        for (int c : new int[] {-1, 1, LOW, HIGH}) {
            DUE.is("got of no circuit", net.got(c, 1, 0), NONE);
        }
        net.destroy(0);
        DUE.is("as it was", net.got(0, 1, 2), 252);
        OnionNet keeps = opened(1, 2);
        keeps.put(0, 1, 1);
        keeps.push(0, 1);
        keeps.settle(200);
        DUE.is("KEEP sends nothing back", keeps.got(0, 1, 0), NONE);
    }

    private static void promise24Kept() {
        OnionNet net = opened(2, 2);
        net.circuit(8, 1, NONE, NONE);
        net.settle(200);
        net.stream(1, 2);
        net.settle(200);
        net.put(0, 1, 1);
        net.put(0, 1, 2);
        net.push(0, 1);
        net.settle(200);
        net.put(1, 1, 3);
        net.push(1, 1);
        net.settle(200);
        net.put(0, 1, 4);
        net.push(0, 1);
        net.settle(200);
        for (int i = 0; i < 4; i++) {
            DUE.is("of all streams, as they came", net.kept(1, i), i + 1);
        }
        for (int i : new int[] {-1, 4, LOW, HIGH}) {
            DUE.is("no such byte", net.kept(1, i), NONE);
        }
        DUE.is("another relay kept none", net.kept(0, 0), NONE);
        for (int r : new int[] {-1, 3, 8, LOW, HIGH}) {
            DUE.is("kept of no relay", net.kept(r, 0), NONE);
        }
        net.destroy(0);
        net.destroy(1);
        net.settle(200);
        DUE.is("it stays", net.kept(1, 3), 4);
    }

    private static void promise25Has() {
        OnionNet net = opened(2, 2);
        DUE.is("an entry", net.has(0, 0), 1);
        DUE.is("an entry", net.has(1, 0), 1);
        DUE.is("no entry", net.has(2, 0), 0);
        DUE.is("no stream", net.has(0, 1), 0);
        DUE.is("a stream", net.has(1, 1), 1);
        net.circuit(8, 1, NONE, NONE);
        net.settle(200);
        net.stream(1, 1);
        net.stream(1, 1);
        net.settle(200);
        DUE.is("two entries", net.has(1, 0), 2);
        DUE.is("three streams", net.has(1, 1), 3);
        DUE.is("nothing kept", net.has(1, 2), 0);
        net.put(0, 1, 5);
        net.push(0, 1);
        net.settle(200);
        DUE.is("a byte kept", net.has(1, 2), 1);
        net.destroy(1);
        net.settle(200);
        DUE.is("an entry less", net.has(1, 0), 1);
        DUE.is("with its streams", net.has(1, 1), 1);
        for (int what : new int[] {-1, 3, LOW, HIGH}) {
            DUE.is("has of others", net.has(0, what), NONE);
        }
        for (int r : new int[] {-1, 3, 6, 8, LOW, HIGH}) {
            DUE.is("has of no relay", net.has(r, 0), NONE);
        }
    }
}
