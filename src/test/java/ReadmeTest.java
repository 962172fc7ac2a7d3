import java.io.IOException;
import java.nio.file.Files;
import java.nio.file.Path;
import java.util.ArrayList;
import java.util.List;
import java.util.Set;
import java.util.TreeSet;
import java.util.regex.Matcher;
import java.util.regex.Pattern;

/** What README.md tells: the answers of its run of calls, the document's words, the tests there are. */
public final class ReadmeTest {
    private static final Due DUE = new Due();
    private static final Pattern RUN = Pattern.compile("(?s)```java\n(.*?)```");
    private static final String MADE = "OnionNet net = new OnionNet();";
    private static final Pattern CALL
            = Pattern.compile("net\\.(\\w+)\\(([^()]*)\\); +// (NONE|true|false|\\d+)(, .*)?");
    private static final Pattern PROMISE = Pattern.compile("(?m)^`[^`]+`: .*$");
    /** What the run is there to show. */
    private static final Set<String> SHOWN
            = Set.of("relay", "client", "circuit", "state", "stream", "told", "put", "push", "got");
    private static final int SHORT = 60;

    private ReadmeTest() {
    }

    /** A call that README.md shows, and the answer that it tells. */
    private record Line(Face.Call call, String answer) {
    }

    public static void main(String[] args) throws IOException {
        String readme = Files.readString(Path.of("README.md"));
        String document = Files.readString(Path.of("../shared/DOC.md"));
        shortRun(lines(readme));
        documentsWords(readme, document);
        allTests(readme);
        DUE.end();
    }

    private static void shortRun(List<Line> lines) {
        DUE.begin("README's run");
        OnionNet net = new OnionNet();
        Set<String> names = new TreeSet<>();
        for (Line line : lines) {
            String name = line.call.name();
            names.add(name);
            DUE.is(line.call.toString(), Face.answer(net, line.call), number(name, line.answer));
        }
        DUE.yes("it shows " + SHOWN + ", not only " + names, names.containsAll(SHOWN));
        DUE.yes("it is short: " + lines.size(), lines.size() <= SHORT);
    }

    /** Every row must be a call with its answer, so that none goes by unseen. */
    private static List<Line> lines(String readme) {
        DUE.begin("README's run");
        List<Line> lines = new ArrayList<>();
        Matcher run = RUN.matcher(readme);
        if (!run.find()) {
            DUE.fails("there is none");
            return lines;
        }
        String[] rows = run.group(1).split("\n");
        DUE.yes("an object is made first: " + rows[0], rows[0].equals(MADE));
        for (int i = 1; i < rows.length; i++) {
            Matcher parts = CALL.matcher(rows[i]);
            if (parts.matches() && Face.NAMES.contains(parts.group(1))) {
                lines.add(new Line(call(parts.group(1), parts.group(2)), parts.group(3)));
            } else {
                DUE.fails("a call of the face with its answer: " + rows[i]);
            }
        }
        return lines;
    }

    private static Face.Call call(String name, String told) {
        String[] args = told.split(", ");
        DUE.is("arguments of " + name + "(" + told + ")", args.length, Face.types(name).length);
        long[] numbers = new long[args.length];
        for (int i = 0; i < args.length; i++) {
            numbers[i] = args[i].equals("OnionNet.NONE") ? OnionNet.NONE : Long.parseLong(args[i].replace("L", ""));
        }
        return new Face.Call(name, numbers);
    }

    /** A boolean counts 1 or 0. */
    private static int number(String name, String answer) {
        boolean truth = answer.equals("true") || answer.equals("false");
        DUE.yes(name + " can answer " + answer, truth == Face.answersBoolean(name));
        if (truth) {
            return answer.equals("true") ? 1 : 0;
        }
        return answer.equals("NONE") ? OnionNet.NONE : Integer.parseInt(answer);
    }

    /** What each method takes and answers, and for how many calls an object is used. */
    private static void documentsWords(String readme, String document) {
        DUE.begin("README's words");
        String text = plain(readme);
        Matcher promise = PROMISE.matcher(document);
        int promises = 0;
        while (promise.find()) {
            promises++;
            DUE.yes("it lists " + promise.group(), text.contains("- " + plain(promise.group())));
        }
        DUE.is("promises", promises, Face.NAMES.size() + 1);
        String use = "An object is used for at most " + Face.CALLS + " calls after it has been made; "
                + "what later calls answer is free.";
        DUE.yes("the document says: " + use, document.contains(use));
        DUE.yes("it says: " + use, text.contains(use));
        DUE.yes("it says what NONE is", text.contains("**NONE** is " + OnionNet.NONE + ","));
    }

    private static String plain(String text) {
        return text.replaceAll("\\s+", " ");
    }

    private static void allTests(String readme) throws IOException {
        DUE.begin("README's tests");
        Set<String> there = new TreeSet<>();
        try (var files = Files.newDirectoryStream(Path.of("src/test/java"), "*Test.java")) {
            files.forEach(file -> there.add(file.getFileName().toString().replace(".java", "")));
        }
        Set<String> told = new TreeSet<>();
        Matcher name = Pattern.compile("`(\\w+Test)`").matcher(readme);
        while (name.find()) {
            told.add(name.group(1));
        }
        DUE.yes("those that are told are those that are there: " + told + ", " + there, told.equals(there));
        DUE.yes("it tells the command", readme.contains("\n    .ci/run\n"));
    }
}
