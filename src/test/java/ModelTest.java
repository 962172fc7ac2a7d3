import java.util.ArrayList;
import java.util.List;
import java.util.Random;

/** Runs of calls, drawn from fixed seeds, on OnionNet and on the Model side by side. */
public final class ModelTest {
    private static final int RUNS = 400;
    private static final int CALLS = 512;
    private static final int[] COMMAND_MASKS = {1, 7, 8, 9, 14, 15, 255, 64};

    private final Random random;
    private final OnionNet net = new OnionNet();
    private final Model model = new Model();
    private final List<String> calls = new ArrayList<>();
    private boolean same = true;

    private ModelTest(long seed) {
        random = new Random(seed);
    }

    public static void main(String[] args) {
        int first = args.length > 0 ? Integer.parseInt(args[0]) : 0;
        int runs = args.length > 1 ? Integer.parseInt(args[1]) : RUNS;
        int wrong = 0;
        for (int run = first; run < first + runs && wrong < 5; run++) {
            ModelTest test = new ModelTest(run);
            test.run(run % 8);
            if (!test.same) {
                wrong++;
                System.out.println("run " + run + " differs: " + String.join(" ", test.calls));
            }
        }
        System.out.println(wrong == 0 ? runs + " runs agree with the model" : wrong + " runs differ");
        if (wrong != 0) {
            System.exit(1);
        }
    }

    private void run(int kind) {
        int relays = kind == 7 ? random.nextInt(8) : 1 + random.nextInt(kind < 3 ? 3 : 6);
        for (int i = 0; i < relays; i++) {
            call("relay", random.nextInt(8) - 1);
        }
        for (int i = 0; i < 1 + random.nextInt(3); i++) {
            call("client", random.nextInt(4));
        }
        while (calls.size() < CALLS && same) {
            step(kind);
        }
    }

    private void step(int kind) {
        int dice = random.nextInt(100);
        if (dice < 5) {
            call("circuit", 8 + random.nextInt(2), some(6), random.nextInt(3) == 0 ? -1 : some(6),
                    random.nextInt(3) == 0 ? -1 : some(6));
        } else if (dice < 17) {
            call("settle", random.nextInt(3) == 0 ? 1 + random.nextInt(12) : 200);
        } else if (dice < 37) {
            int link = busyLink();
            call("deliver", link / 10, link % 10);
        } else if (dice < 39 && kind != 0) {
            int link = busyLink();
            call("drop", link / 10, link % 10);
        } else if (dice < 42 && kind % 2 == 1) {
            alterSome();
        } else if (dice < 49) {
            call("stream", some(6), random.nextInt(6) == 0 ? random.nextInt(258) - 1 : 1 + random.nextInt(2));
        } else if (dice < 57) {
            putSome();
        } else if (dice < 68) {
            call("push", some(6), 1 + random.nextInt(4));
        } else if (dice == 68) {
            call("close", some(6), 1 + random.nextInt(4));
        } else if (dice == 69 && random.nextInt(3) == 0) {
            call("destroy", some(6));
        } else if (dice < 75) {
            odd();
        } else {
            probe();
        }
    }

    /** Mostly a number that has been given already, as the model knows. */
    private int some(int most) {
        int made = most == 6 && !model.circuits.isEmpty() ? Math.max(model.circuits.size(), 3) : 3;
        return random.nextInt(10) == 0 ? random.nextInt(most + 2) - 1 : random.nextInt(made);
    }

    private int busyLink() {
        List<Integer> busy = new ArrayList<>();
        for (int link = 0; link < 100; link++) {
            if (model.waiting(link / 10, link % 10) > 0) {
                busy.add(link);
            }
        }
        return busy.isEmpty() ? random.nextInt(100) : busy.get(random.nextInt(busy.size()));
    }

    private void alterSome() {
        int link = busyLink();
        int at = random.nextInt(140);
        int mask = 1 + random.nextInt(255);
        if (random.nextInt(3) == 0) {
            at = 4;
            mask = COMMAND_MASKS[random.nextInt(COMMAND_MASKS.length)];
        } else if (random.nextInt(3) == 0) {
            at = 3;
            mask = 1 + random.nextInt(3);
        }
        call("alter", link / 10, link % 10, at, mask);
    }

    private void putSome() {
        int circuit = some(6);
        int stream = 1 + random.nextInt(4);
        int count = random.nextInt(12) == 0 ? 130 : 1 + random.nextInt(3);
        for (int i = 0; i < count && calls.size() < CALLS && same; i++) {
            call("put", circuit, stream, random.nextInt());
        }
    }

    /** Arguments of no sense, and the calls that are rarely made. */
    private void odd() {
        int[] odd = {-2, -1, 0, 1, 5, 6, 7, 8, 9, 10, 139, 140, 255, 256, 1000, 1001, 2000,
            Integer.MIN_VALUE, Integer.MAX_VALUE};
        long[] args = new long[4];
        for (int i = 0; i < 4; i++) {
            args[i] = odd[random.nextInt(odd.length)];
        }
        String[] names = {"relay", "client", "key", "weigh", "path", "seal", "circuit", "stream", "put", "push",
            "close", "deliver", "drop", "alter", "waiting", "look", "settle", "state", "hops", "told", "got",
            "kept", "has"};
        call(names[random.nextInt(names.length)], args);
    }

    private void probe() {
        int link = busyLink();
        switch (random.nextInt(12)) {
            case 0: call("key", some(5), random.nextInt(37)); break;
            case 1: call("weigh", some(5), random.nextInt(3) == 0 ? 0 : random.nextInt(1002)); break;
            case 2: call("path", random.nextLong(), random.nextInt(3)); break;
            case 3: call("seal", random.nextInt(33)); break;
            case 4: call("waiting", link / 10, link % 10); break;
            case 5: call("state", some(6)); break;
            case 6: call("hops", some(6)); break;
            case 7: call("told", some(6), 1 + random.nextInt(4), random.nextInt(4)); break;
            case 8: call("got", some(6), 1 + random.nextInt(4), random.nextInt(140)); break;
            case 9: call("kept", some(5), random.nextInt(140)); break;
            case 10: call("has", some(5), random.nextInt(3)); break;
            default: call("look", link / 10, link % 10, random.nextInt(3), random.nextInt(140)); break;
        }
    }

    private void call(String name, long... args) {
        if (calls.size() >= CALLS) {
            return;
        }
        int[] a = new int[4];
        StringBuilder text = new StringBuilder(name).append('(');
        for (int i = 0; i < args.length; i++) {
            a[i] = (int) args[i];
            text.append(i == 0 ? "" : ",").append(args[i]);
        }
        int due = modelAnswer(name, args[0], a);
        int answer = netAnswer(name, args[0], a);
        calls.add(text.append(")=").append(answer).toString());
        if (answer != due) {
            same = false;
            calls.add("due is " + due);
        }
        if (Boolean.getBoolean("deep")) {
            compareAll();
        }
    }

    private int netAnswer(String name, long word, int[] a) {
        switch (name) {
            case "relay": return net.relay(word);
            case "client": return net.client(word);
            case "key": return net.key(a[0], a[1]);
            case "weigh": return net.weigh(a[0], a[1]) ? 1 : 0;
            case "path": return net.path(word, a[1]);
            case "seal": return net.seal(a[0]);
            case "circuit": return net.circuit(a[0], a[1], a[2], a[3]);
            case "stream": return net.stream(a[0], a[1]);
            case "put": return net.put(a[0], a[1], a[2]) ? 1 : 0;
            case "push": return net.push(a[0], a[1]);
            case "close": return net.close(a[0], a[1]) ? 1 : 0;
            case "destroy": return net.destroy(a[0]) ? 1 : 0;
            case "deliver": return net.deliver(a[0], a[1]);
            case "drop": return net.drop(a[0], a[1]) ? 1 : 0;
            case "alter": return net.alter(a[0], a[1], a[2], a[3]) ? 1 : 0;
            case "waiting": return net.waiting(a[0], a[1]);
            case "look": return net.look(a[0], a[1], a[2], a[3]);
            case "settle": return net.settle(a[0]);
            case "state": return net.state(a[0]);
            case "hops": return net.hops(a[0]);
            case "told": return net.told(a[0], a[1], a[2]);
            case "got": return net.got(a[0], a[1], a[2]);
            case "kept": return net.kept(a[0], a[1]);
            default: return net.has(a[0], a[1]);
        }
    }

    private int modelAnswer(String name, long word, int[] a) {
        switch (name) {
            case "relay": return model.relay(word);
            case "client": return model.client(word);
            case "key": return model.key(a[0], a[1]);
            case "weigh": return model.weigh(a[0], a[1]) ? 1 : 0;
            case "path": return model.path(word, a[1]);
            case "seal": return model.seal(a[0]);
            case "circuit": return model.circuit(a[0], a[1], a[2], a[3]);
            case "stream": return model.stream(a[0], a[1]);
            case "put": return model.put(a[0], a[1], a[2]) ? 1 : 0;
            case "push": return model.push(a[0], a[1]);
            case "close": return model.close(a[0], a[1]) ? 1 : 0;
            case "destroy": return model.destroy(a[0]) ? 1 : 0;
            case "deliver": return model.deliver(a[0], a[1]);
            case "drop": return model.drop(a[0], a[1]) ? 1 : 0;
            case "alter": return model.alter(a[0], a[1], a[2], a[3]) ? 1 : 0;
            case "waiting": return model.waiting(a[0], a[1]);
            case "look": return model.look(a[0], a[1], a[2], a[3]);
            case "settle": return model.settle(a[0]);
            case "state": return model.state(a[0]);
            case "hops": return model.hops(a[0]);
            case "told": return model.told(a[0], a[1], a[2]);
            case "got": return model.got(a[0], a[1], a[2]);
            case "kept": return model.kept(a[0], a[1]);
            default: return model.has(a[0], a[1]);
        }
    }

    /** For search by hand only (-Ddeep=true): it asks more than the 512 calls that are promised. */
    private void compareAll() {
        for (int link = 0; link < 100; link++) {
            int waiting = model.waiting(link / 10, link % 10);
            same &= waiting == net.waiting(link / 10, link % 10);
            for (int i = 0; i < 140 * waiting; i++) {
                same &= model.look(link / 10, link % 10, i / 140, i % 140)
                        == net.look(link / 10, link % 10, i / 140, i % 140);
            }
        }
        for (int circuit = 0; circuit < 6; circuit++) {
            same &= model.state(circuit) == net.state(circuit) && model.hops(circuit) == net.hops(circuit);
            for (int i = 0; i < 16; i++) {
                same &= model.told(circuit, 1 + i / 4, i % 4) == net.told(circuit, 1 + i / 4, i % 4);
            }
        }
        for (int relay = 0; relay < 6; relay++) {
            for (int what = 0; what < 3; what++) {
                same &= model.has(relay, what) == net.has(relay, what);
            }
        }
    }
}
