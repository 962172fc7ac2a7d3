import java.io.IOException;
import java.nio.file.Files;
import java.nio.file.Path;
import java.util.Arrays;
import java.util.LinkedHashMap;
import java.util.Map;
import java.util.regex.Matcher;
import java.util.regex.Pattern;

/**
 * The first remark of each test of the document's sentences: it tells the heading and the words,
 * the words stand there, and no word of the document that promises something is without a test.
 */
public final class RemarksTest {
    private static final Due DUE = new Due();
    private static final String[] FILES = {"BoundaryTest", "KeyTermsTest", "CellTermsTest", "RelayTermsTest",
        "CircuitTermsTest", "AnyCallsTest"};
    private static final Pattern TEST
            = Pattern.compile("(?m)((?:^    (?:/\\*\\*| \\*).*\n)*)^    void (\\w+)\\(\\) \\{");
    private static final Pattern REMARK = Pattern.compile("/\\*\\* (Promise \\d+|Terms|What it is): \"([^\"]*)\".*");

    /** The text under each heading, and of each of its letters whether a test tells it. */
    private final Map<String, String> texts = new LinkedHashMap<>();
    private final Map<String, boolean[]> told = new LinkedHashMap<>();

    private RemarksTest(String document) {
        for (String section : document.split("(?m)^## ")) {
            String heading = section.substring(0, section.indexOf('\n')).replaceAll(":.*", "");
            String text = plain(section.substring(section.indexOf('\n')));
            texts.put(heading, text);
            told.put(heading, new boolean[text.length()]);
        }
    }

    public static void main(String[] args) throws IOException {
        RemarksTest test = new RemarksTest(Files.readString(Path.of("../shared/DOC.md")));
        for (String file : FILES) {
            test.file(file, Files.readString(Path.of("src/test/java/" + file + ".java")));
        }
        test.allTold("What it is");
        test.allTold("Terms");
        for (int promise = 1; promise <= 25; promise++) {
            test.allTold("Promise " + promise);
        }
        DUE.end();
    }

    private static String plain(String text) {
        return text.replaceAll("```\\w*", " ").replaceAll("\\s+", " ").trim();
    }

    private void file(String name, String source) {
        Matcher test = TEST.matcher(source);
        while (test.find()) {
            DUE.begin(name + "." + test.group(2));
            String remark = test.group(1).replaceAll("(?m)^ +\\*(?!/)|^ +\\*/", " ").replaceAll("\\s+", " ").trim();
            Matcher parts = REMARK.matcher(remark);
            DUE.yes("its first remark tells a heading and words: " + remark, parts.matches());
            if (parts.matches()) {
                tell(parts.group(1), parts.group(2));
                Matcher number = Pattern.compile("promise(\\d+).*").matcher(test.group(2));
                DUE.yes("its name has the promise's number", !number.matches() || !parts.group(1).startsWith("Promise")
                        || parts.group(1).equals("Promise " + Integer.parseInt(number.group(1))));
            }
        }
    }

    private void tell(String heading, String words) {
        String text = texts.get(heading);
        int at = text == null ? -1 : text.indexOf(words);
        DUE.yes("these words stand under " + heading + ": " + words, at >= 0);
        for (; at >= 0; at = text.indexOf(words, at + 1)) {
            Arrays.fill(told.get(heading), at, at + words.length(), true);
        }
    }

    /** But for the first words of a promise, which are the call itself. */
    private void allTold(String heading) {
        DUE.begin(heading);
        String text = texts.get(heading);
        int first = heading.startsWith("Promise") ? text.indexOf("`: ") + 3 : 0;
        StringBuilder rest = new StringBuilder();
        for (int i = first; i < text.length(); i++) {
            if (!told.get(heading)[i] && Character.isLetterOrDigit(text.charAt(i))) {
                rest.append(text.charAt(i));
            }
        }
        DUE.yes("has a test for all of its words, but for: " + rest, rest.length() == 0);
    }
}
