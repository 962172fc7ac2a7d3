import java.util.ArrayList;
import java.util.Arrays;
import java.util.List;
import java.util.Random;

/** Runs of calls, drawn from fixed seeds, on OnionNet and on the Model side by side. */
public final class ModelTest {
    private static final int RUNS = 600;
    private static final int[] COMMAND_MASKS = {1, 7, 8, 9, 14, 15, 255, 64};

    private final Random random;
    private final Twin twin = new Twin();

    private ModelTest(long seed) {
        random = new Random(seed);
    }

    public static void main(String[] args) {
        int first = args.length > 0 ? Integer.parseInt(args[0]) : 0;
        int runs = args.length > 1 ? Integer.parseInt(args[1]) : RUNS;
        int wrong = 0;
        for (int run = first; run < first + runs && wrong < 5; run++) {
            ModelTest test = new ModelTest(run);
            test.run(run % 8);
            if (!test.twin.same) {
                wrong++;
                System.out.println("run " + run + " differs, " + test.twin.difference + ": " + test.twin.made);
            }
        }
        System.out.println(wrong == 0 ? runs + " runs agree with the model" : wrong + " runs differ");
        if (wrong != 0) {
            System.exit(1);
        }
    }

    private boolean goesOn() {
        return twin.same && twin.made.size() < Face.CALLS;
    }

    private void run(int kind) {
        int relays = kind == 7 ? random.nextInt(8) : 1 + random.nextInt(kind < 3 ? 3 : 6);
        for (int i = 0; i < relays; i++) {
            twin.call("relay", random.nextInt(8) - 1);
        }
        for (int i = 0; i < 1 + random.nextInt(3); i++) {
            twin.call("client", random.nextInt(4));
        }
        while (goesOn()) {
            step(kind);
        }
    }

    private void step(int kind) {
        int dice = random.nextInt(100);
        if (dice < 5) {
            twin.call("circuit", 8 + random.nextInt(2), some(6), random.nextInt(3) == 0 ? -1 : some(6),
                    random.nextInt(3) == 0 ? -1 : some(6));
        } else if (dice < 17) {
            twin.call("settle", random.nextInt(3) == 0 ? 1 + random.nextInt(12) : 200);
        } else if (dice < 37) {
            int link = busyLink();
            twin.call("deliver", link / 10, link % 10);
        } else if (dice < 39 && kind != 0) {
            int link = busyLink();
            twin.call("drop", link / 10, link % 10);
        } else if (dice < 42 && kind % 2 == 1) {
            alterSome();
        } else if (dice < 43 && kind % 4 > 1) {
            forge();
        } else if (dice < 49) {
            twin.call("stream", some(6), random.nextInt(6) == 0 ? random.nextInt(258) - 1 : 1 + random.nextInt(2));
        } else if (dice < 57) {
            putSome();
        } else if (dice < 68) {
            twin.call("push", some(6), 1 + random.nextInt(4));
        } else if (dice == 68) {
            twin.call("close", some(6), 1 + random.nextInt(4));
        } else if (dice == 69 && random.nextInt(3) == 0) {
            twin.call("destroy", some(6));
        } else if (dice < 75) {
            odd();
        } else {
            probe();
        }
    }

    /** Mostly a number that has been given already, as the model knows. */
    private int some(int most) {
        int made = most == 6 && !twin.model.circuits.isEmpty() ? Math.max(twin.model.circuits.size(), 3) : 3;
        return random.nextInt(10) == 0 ? random.nextInt(most + 2) - 1 : random.nextInt(made);
    }

    private int busyLink() {
        List<Integer> busy = new ArrayList<>();
        for (int link = 0; link < 100; link++) {
            if (twin.model.waiting(link / 10, link % 10) > 0) {
                busy.add(link);
            }
        }
        return busy.isEmpty() ? random.nextInt(100) : busy.get(random.nextInt(busy.size()));
    }

    private void alterSome() {
        int link = busyLink();
        int at = random.nextInt(140);
        int mask = 1 + random.nextInt(255);
        if (random.nextInt(3) == 0) {
            at = 4;
            mask = COMMAND_MASKS[random.nextInt(COMMAND_MASKS.length)];
        } else if (random.nextInt(3) == 0) {
            at = 3;
            mask = 1 + random.nextInt(3);
        }
        twin.call("alter", link / 10, link % 10, at, mask);
    }

    /** Alters a cell so that a key recognizes a payload that nobody made. */
    private void forge() {
        int link = busyLink();
        int from = link / 10;
        int to = link % 10;
        if (twin.model.waiting(from, to) < 1 || twin.model.link(from, to).get(0)[4] != 3) {
            return;
        }
        List<Model.Side> layers = twin.layers(from, to, random.nextInt(6) == 0 ? 1 : 0);
        if (layers.isEmpty()) {
            return;
        }
        byte[] forged = twin.bare(from, to, layers);
        Model.Side last = layers.get(layers.size() - 1);
        if (!Arrays.equals(last.due(forged), Arrays.copyOfRange(forged, 5, 9))) {
            if (random.nextInt(4) != 0) {
                return;
            }
            forged = new byte[135];
        }
        changePayload(forged);
        System.arraycopy(last.due(forged), 0, forged, 5, 4);
        if (random.nextInt(8) == 0) {
            forged[5 + random.nextInt(4)] ^= (byte) (1 << random.nextInt(8));
        }
        twin.alterTo(from, to, layers, forged);
    }

    private void changePayload(byte[] payload) {
        int[] commands = {0, 1, 2, 3, 4, 5, 6, 14, 15, 255};
        int[] streams = {0, 1, 2, 3, 4, 5, 257, 65535};
        int[] lengths = {0, 1, 2, 63, 64, 65, 69, 123, 124, 125, 65535};
        if (random.nextInt(2) == 0) {
            payload[0] = (byte) commands[random.nextInt(commands.length)];
        }
        if (random.nextInt(2) == 0) {
            System.arraycopy(Crypto.number(streams[random.nextInt(streams.length)], 2), 0, payload, 3, 2);
        }
        if (random.nextInt(3) == 0) {
            System.arraycopy(Crypto.number(lengths[random.nextInt(lengths.length)], 2), 0, payload, 9, 2);
        }
        if (random.nextInt(3) == 0) {
            payload[11] = (byte) random.nextInt(7);
        }
        if (random.nextInt(12) == 0) {
            payload[1 + random.nextInt(2)] = 1;
        }
    }

    private void putSome() {
        int circuit = some(6);
        int stream = 1 + random.nextInt(4);
        int count = random.nextInt(12) == 0 ? 130 : 1 + random.nextInt(3);
        for (int i = 0; i < count && goesOn(); i++) {
            twin.call("put", circuit, stream, random.nextInt());
        }
    }

    /** Arguments of no sense, and the calls that are rarely made. */
    private void odd() {
        int[] odd = {-2, -1, 0, 1, 5, 6, 7, 8, 9, 10, 139, 140, 255, 256, 1000, 1001, 2000,
            Integer.MIN_VALUE, Integer.MAX_VALUE};
        long[] args = new long[4];
        for (int i = 0; i < 4; i++) {
            args[i] = odd[random.nextInt(odd.length)];
        }
        twin.call(Face.NAMES.get(random.nextInt(Face.NAMES.size())), args);
    }

    private void probe() {
        int link = busyLink();
        switch (random.nextInt(12)) {
            case 0: twin.call("key", some(5), random.nextInt(37)); break;
            case 1: twin.call("weigh", some(5), random.nextInt(3) == 0 ? 0 : random.nextInt(1002)); break;
            case 2: twin.call("path", random.nextLong(), random.nextInt(3)); break;
            case 3: twin.call("seal", random.nextInt(33)); break;
            case 4: twin.call("waiting", link / 10, link % 10); break;
            case 5: twin.call("state", some(6)); break;
            case 6: twin.call("hops", some(6)); break;
            case 7: twin.call("told", some(6), 1 + random.nextInt(4), random.nextInt(4)); break;
            case 8: twin.call("got", some(6), 1 + random.nextInt(4), random.nextInt(140)); break;
            case 9: twin.call("kept", some(5), random.nextInt(140)); break;
            case 10: twin.call("has", some(5), random.nextInt(3)); break;
            default: twin.call("look", link / 10, link % 10, random.nextInt(3), random.nextInt(140)); break;
        }
    }
}
