import java.util.ArrayList;
import java.util.List;

/**
 * All that the reading calls show after a run of calls. They are more than one object's 512 calls,
 * so the run is made again on as many objects as are needed.
 */
final class Shown {
    private final List<Face.Call> run;
    private final List<Integer> answers = new ArrayList<>();
    private OnionNet net;
    private int used;

    private Shown(List<Face.Call> run) {
        this.run = run;
    }

    static List<Integer> after(List<Face.Call> run) {
        Shown shown = new Shown(run);
        for (int relay = 0; relay < 6; relay++) {
            shown.readRelay(relay);
        }
        for (int i = 0; i < 32; i++) {
            shown.ask("seal", i);
        }
        for (int link = 0; link < 100; link++) {
            shown.readLink(link / 10, link % 10);
        }
        for (int circuit = 0; circuit < 6; circuit++) {
            shown.readCircuit(circuit);
        }
        return shown.answers;
    }

    private int ask(String name, long... args) {
        if (net == null || used == Face.CALLS) {
            playAgain();
        }
        int answer = Face.answer(net, new Face.Call(name, args));
        used++;
        answers.add(answer);
        return answer;
    }

    private void playAgain() {
        if (run.size() >= Face.CALLS) {
            throw new IllegalStateException("the run leaves no call for reading");
        }
        net = new OnionNet();
        for (Face.Call call : run) {
            Face.answer(net, call);
        }
        used = run.size();
    }

    private void readRelay(int relay) {
        if (ask("has", relay, 0) == OnionNet.NONE) {
            return;
        }
        ask("has", relay, 1);
        int kept = ask("has", relay, 2);
        for (int i = 0; i < kept; i++) {
            ask("kept", relay, i);
        }
        for (int i = 0; i < 36; i++) {
            ask("key", relay, i);
        }
    }

    private void readLink(int from, int to) {
        int cells = ask("waiting", from, to);
        for (int i = 0; i < 140 * cells; i++) {
            ask("look", from, to, i / 140, i % 140);
        }
    }

    private void readCircuit(int circuit) {
        if (ask("state", circuit) == OnionNet.NONE) {
            return;
        }
        ask("hops", circuit);
        for (int stream = 1; stream <= 4 && ask("told", circuit, stream, 0) != OnionNet.NONE; stream++) {
            ask("told", circuit, stream, 1);
            ask("told", circuit, stream, 2);
            int kept = ask("told", circuit, stream, 3);
            for (int i = 0; i < kept; i++) {
                ask("got", circuit, stream, i);
            }
        }
    }
}
