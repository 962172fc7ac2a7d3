import java.lang.reflect.InvocationTargetException;
import java.lang.reflect.Method;
import java.lang.reflect.Modifier;
import java.util.ArrayList;
import java.util.Arrays;
import java.util.Comparator;
import java.util.List;

/**
 * What tests of the document's sentences have in common. Every call goes to OnionNet and to the
 * Model. A test is a method without parameters that is not private; its first remark tells the
 * sentence (RemarksTest looks at that), and it starts on a bench of its own.
 */
abstract class Bench {
    static final int NONE = OnionNet.NONE;
    static final int LOW = Integer.MIN_VALUE;
    static final int HIGH = Integer.MAX_VALUE;
    static final long[] SEEDS = {0, 1, -1, 255, 256, 1L << 32, Long.MIN_VALUE, Long.MAX_VALUE};

    static final int BUILDING = 0;
    static final int WAITING = 0;
    static final int OPEN = 1;
    static final int GONE = 2;
    static final int CREATE = 10;
    static final int CREATED = 11;
    static final int RELAY = 3;
    static final int DESTROY = 4;
    static final int BEGIN = 1;
    static final int DATA = 2;
    static final int END = 3;
    static final int CONNECTED = 4;
    static final int SENDME = 5;
    static final int EXTEND = 14;
    static final int EXTENDED = 15;
    static final int ECHO = 1;
    static final int KEEP = 2;

    static final Due DUE = new Due();

    /** Shows what a refused call might have left behind where no reading call sees it. */
    private static final List<Face.Call> SEQUEL = List.of(
            new Face.Call("relay", 71), new Face.Call("client", 72), new Face.Call("push", 0, 1),
            new Face.Call("put", 0, 2, 3), new Face.Call("push", 0, 2), new Face.Call("settle", 50),
            new Face.Call("circuit", 8, 0, 1, NONE), new Face.Call("circuit", 9, 1, NONE, NONE),
            new Face.Call("settle", 60), new Face.Call("stream", 0, ECHO), new Face.Call("stream", 1, KEEP),
            new Face.Call("settle", 40), new Face.Call("put", 0, 1, 5), new Face.Call("push", 0, 1),
            new Face.Call("put", 1, 1, 6), new Face.Call("push", 1, 1), new Face.Call("settle", 30),
            new Face.Call("circuit", 8, 1, NONE, NONE), new Face.Call("push", 0, 1), new Face.Call("stream", 2, ECHO));

    Twin twin = new Twin();
    private List<Integer> shown;
    private List<Integer> shownLater;
    private int shownAt;

    static void runAll(Class<? extends Bench> tests) throws ReflectiveOperationException {
        Method[] methods = tests.getDeclaredMethods();
        Arrays.sort(methods, Comparator.comparing(Method::getName));
        for (Method method : methods) {
            int flags = method.getModifiers();
            boolean helps = Modifier.isPrivate(flags) || Modifier.isStatic(flags) || method.getParameterCount() > 0;
            if (!helps) {
                run(tests, method);
            }
        }
        DUE.end();
    }

    private static void run(Class<? extends Bench> tests, Method test) throws ReflectiveOperationException {
        Bench bench = tests.getDeclaredConstructor().newInstance();
        DUE.begin(test.getName());
        try {
            test.invoke(bench);
            bench.anew();
        } catch (InvocationTargetException e) {
            DUE.fails(e.getCause() + " at " + Arrays.toString(e.getCause().getStackTrace()));
        }
    }

    /** Ends the run of calls on one object, and begins that on another. */
    final void anew() {
        DUE.yes("as the model: " + twin.difference, twin.same);
        DUE.no("more calls than one object has", twin.over);
        twin = new Twin();
        shown = null;
    }

    final int call(String name, long... args) {
        return twin.call(name, args);
    }

    /** The answer that is due. */
    final void is(int want, String name, long... args) {
        due("", want, name, args);
    }

    final void due(String why, int want, String name, long... args) {
        DUE.is(new Face.Call(name, args) + " " + why, call(name, args), want);
    }

    /** The call answers NONE or false, and nothing that another call shows, now or later, is changed. */
    final void refused(String name, long... args) {
        refusedBy(Face.refusal(name), name, args);
    }

    final void refusedBy(int want, String name, long... args) {
        if (shown == null || shownAt != twin.made.size()) {
            show();
        }
        List<Integer> before = shown;
        List<Integer> beforeLater = shownLater;
        is(want, name, args);
        show();
        Face.Call call = new Face.Call(name, args);
        DUE.yes(call + " changes nothing", before.equals(shown));
        DUE.yes(call + " changes nothing that shows later", beforeLater.equals(shownLater));
    }

    /** The first cell of a link is handed over, and what comes of it is the same as if it were lost. */
    final void leftOut(int command, int from, int to) {
        Face.Call drop = new Face.Call("drop", from, to);
        List<Integer> lost = Shown.after(madeAnd(drop));
        List<Integer> lostLater = Shown.after(later(madeAnd(drop)));
        is(command, "deliver", from, to);
        show();
        DUE.yes("the cell is left out", lost.equals(shown));
        DUE.yes("the cell is left out, as shows later", lostLater.equals(shownLater));
    }

    private List<Face.Call> madeAnd(Face.Call call) {
        List<Face.Call> run = new ArrayList<>(twin.made);
        run.add(call);
        return run;
    }

    private static List<Face.Call> later(List<Face.Call> run) {
        List<Face.Call> later = new ArrayList<>(run);
        later.addAll(SEQUEL);
        return later;
    }

    private void show() {
        shown = Shown.after(twin.made);
        shownLater = Shown.after(later(twin.made));
        shownAt = twin.made.size();
    }

    /** Relays of the seeds 1, 2, .. and clients of the seeds 101, 102. */
    final void nodes(int relays, int clients) {
        for (int i = 1; i <= relays; i++) {
            call("relay", i);
        }
        for (int i = 1; i <= clients; i++) {
            call("client", 100 + i);
        }
    }

    /** Circuit 0 of client 8 is open, over relays 0, 1, 2 or the first of them. */
    final void open(int hops) {
        building(hops);
        call("settle", 200);
        due("open", OPEN, "state", 0);
    }

    final void building(int hops) {
        anew();
        nodes(3, 1);
        call("circuit", 8, 0, hops > 1 ? 1 : NONE, hops > 2 ? 2 : NONE);
    }

    /** Circuit 0 is open, and so is its stream 1. */
    final void streaming(int hops, int port) {
        open(hops);
        call("stream", 0, port);
        call("settle", 200);
        due("open", OPEN, "told", 0, 1, 0);
    }

    /** So many cells of one byte each. */
    final void pushes(int circuit, int stream, int count) {
        for (int i = 0; i < count; i++) {
            call("put", circuit, stream, 1 + i);
            is(1, "push", circuit, stream);
        }
    }

    final void delivers(int from, int to, int count) {
        for (int i = 0; i < count; i++) {
            DUE.yes("a cell lies from " + from + " to " + to, call("deliver", from, to) != NONE);
        }
    }

    /** Bytes of the k-th cell on a link, from a place on. */
    final void bytes(byte[] want, int from, int to, int k, int at) {
        for (int i = 0; i < want.length; i++) {
            is(want[i] & 255, "look", from, to, k, at + i);
        }
    }

    /** Every byte of a cell, as the model has it. */
    final void lookAll(int from, int to, int k) {
        DUE.yes("a cell lies there", call("look", from, to, k, 0) != NONE);
        for (int i = 1; i < 140; i++) {
            call("look", from, to, k, i);
        }
    }

    /** Alters the first cell of a link until these bytes stand in it, from a place on. */
    final void become(byte[] want, int from, int to, int at) {
        byte[] now = twin.model.link(from, to).get(0).clone();
        for (int i = 0; i < want.length; i++) {
            if (now[at + i] != want[i]) {
                is(1, "alter", from, to, at + i, (now[at + i] ^ want[i]) & 255);
            }
        }
    }

    /** The first cell from client 8 to relay 0 becomes this payload, which the relay recognizes. */
    final void forge(int command, int stream, int length, int... data) {
        byte[] row = new byte[data.length];
        for (int i = 0; i < row.length; i++) {
            row[i] = (byte) data[i];
        }
        twin.forge(8, 0, Twin.payload(command, stream, length, row));
    }

    /** A payload of client 8 that relay 0 finds as told. */
    final void forged(int command, int stream, int length, int... data) {
        sendAny();
        forge(command, stream, length, data);
        due("handed over", RELAY, "deliver", 8, 0);
    }

    /** Some cell of circuit 0, as long as the client has one to send. */
    final void sendAny() {
        call("put", 0, 1, 1);
        boolean sent = call("push", 0, 1) > 0 || call("stream", 0, ECHO) != NONE;
        for (int stream = 4; stream > 1 && !sent; stream--) {
            sent = call("close", 0, stream) == 1;
        }
    }

    /** The answer of relay 0 to DATA of stream 1 becomes this payload, which the client recognizes. */
    final void answered(int command, int stream, int length) {
        pushes(0, 1, 1);
        delivers(8, 0, 1);
        twin.forge(0, 8, Twin.payload(command, stream, length, (byte) 66));
        due("handed over", RELAY, "deliver", 0, 8);
    }
}
