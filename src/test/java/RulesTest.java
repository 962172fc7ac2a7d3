import java.io.IOException;
import java.lang.reflect.Field;
import java.lang.reflect.Method;
import java.lang.reflect.Modifier;
import java.nio.file.Files;
import java.nio.file.Path;
import java.util.Arrays;
import java.util.Set;
import java.util.TreeSet;
import java.util.regex.Matcher;
import java.util.regex.Pattern;

/** The face, and the rules of LANGUAGE.md that the class file or the text can show. */
public final class RulesTest {
    private static final Due DUE = new Due();
    /** Fields and elements that all calls of a run have in common. */
    private static final long ROOM = 7_300_000;
    /** A method as the document prints it, with the names of what it takes. */
    private static final Pattern PRINTED = Pattern.compile("public (int|boolean) (\\w+\\(.*\\));");

    private RulesTest() {
    }

    public static void main(String[] args) throws IOException {
        face(Files.readString(Path.of("../shared/DOC.md")));
        for (Class<?> inside : OnionNet.class.getDeclaredClasses()) {
            classInside(inside);
        }
        text(Files.readString(Path.of("src/main/java/OnionNet.java")));
        room();
        DUE.end();
    }

    private static String told(Method method) {
        String[] types = Arrays.stream(method.getParameterTypes()).map(Class::getName).toArray(String[]::new);
        return method.getReturnType().getName() + " " + method.getName() + "(" + String.join(",", types) + ")";
    }

    private static Set<String> printed(String document) {
        Set<String> printed = new TreeSet<>();
        Matcher method = PRINTED.matcher(document);
        while (method.find()) {
            printed.add(method.group(1) + " " + method.group(2).replaceAll(" \\w+(?=[,)])", "").replace(" ", ""));
        }
        return printed;
    }

    private static void face(String document) {
        int flags = OnionNet.class.getModifiers();
        DUE.yes("public and final", Modifier.isPublic(flags) && Modifier.isFinal(flags));
        DUE.is("constructors", OnionNet.class.getDeclaredConstructors().length, 1);
        DUE.is("public constructors", OnionNet.class.getConstructors().length, 1);
        Set<String> seen = new TreeSet<>();
        for (Method method : OnionNet.class.getDeclaredMethods()) {
            if (Modifier.isPublic(method.getModifiers())) {
                seen.add(told(method));
            } else {
                DUE.yes(method + " is private", Modifier.isPrivate(method.getModifiers()));
                ownName(method);
            }
        }
        Set<String> printed = printed(document);
        DUE.is("the document's methods", printed.size(), 24);
        DUE.yes("its methods are those: " + seen + ", " + printed, seen.equals(printed));
        DUE.is("NONE", OnionNet.NONE, -1);
        for (Field field : OnionNet.class.getDeclaredFields()) {
            DUE.yes(field + " is private or NONE",
                    Modifier.isPrivate(field.getModifiers()) || field.getName().equals("NONE"));
            fixed(field);
        }
    }

    private static void classInside(Class<?> inside) {
        DUE.yes(inside + " is static", Modifier.isStatic(inside.getModifiers()));
        DUE.yes(inside + " is not public", !Modifier.isPublic(inside.getModifiers())
                && !Modifier.isProtected(inside.getModifiers()));
        for (Method method : inside.getDeclaredMethods()) {
            ownName(method);
            DUE.yes(method + " takes at most seven", method.getParameterCount() <= 7);
        }
        int fields = 0;
        for (Field field : inside.getDeclaredFields()) {
            fixed(field);
            fields += Modifier.isStatic(field.getModifiers()) ? 0 : 1;
        }
        DUE.yes(inside + " has some twenty fields", fields <= 20);
    }

    private static void ownName(Method method) {
        DUE.no(method + " bears the name of a public one", Face.NAMES.contains(method.getName()));
    }

    private static void fixed(Field field) {
        int flags = field.getModifiers();
        DUE.yes(field + " is final, if static", !Modifier.isStatic(flags) || Modifier.isFinal(flags));
    }

    private static void text(String source) {
        String bare = source.replaceAll("(?s)/\\*.*?\\*/", "").replaceAll("//[^\n]*", "");
        String[] banned = {"throw", "throws", "try", "catch", "synchronized", "assert", "static \\{", "->", "::",
            "package", "Exact", "Object", "System\\.(?!arraycopy)", "Integer", "Long", "\\.equals", "toString"};
        for (String word : banned) {
            boolean letters = Character.isLetter(word.charAt(0)) && Character.isLetter(word.charAt(word.length() - 1));
            Matcher found = Pattern.compile(letters ? "\\b" + word + "\\b" : word).matcher(bare);
            DUE.no(word + " is in the text", found.find());
        }
        Matcher imports = Pattern.compile("import ([^;]*);").matcher(bare);
        while (imports.find()) {
            DUE.yes(imports.group(1) + " is in the list", imports.group(1).equals("java.util.Arrays"));
        }
        Matcher classes = Pattern.compile("\\bclass \\w+").matcher(bare);
        DUE.yes("some twelve classes", classes.results().count() <= 12);
        methods(source.split("\n"));
    }

    /** A method's first line stands at one or two indents and ends with its brace. */
    private static void methods(String[] lines) {
        Pattern start = Pattern.compile("( {4}| {8})[^ /*}].*\\) \\{");
        for (int i = 0; i < lines.length; i++) {
            Matcher first = start.matcher(lines[i]);
            if (first.matches() && !lines[i].contains(" class ")) {
                int end = i;
                while (end < lines.length && !lines[end].equals(first.group(1) + "}")) {
                    end++;
                }
                DUE.yes(lines[i].trim() + " is short: " + (end - i + 1), end - i < 60);
            }
        }
    }

    /** All that one object can make: every byte that is ever asked for, the lost ones too. */
    private static void room() {
        var memory = (com.sun.management.ThreadMXBean) java.lang.management.ManagementFactory.getThreadMXBean();
        fullRun();
        long before = memory.getCurrentThreadAllocatedBytes();
        fullRun();
        long bytes = memory.getCurrentThreadAllocatedBytes() - before;
        DUE.yes("a full run takes " + bytes + " bytes, of which an element is four", bytes < 4 * ROOM / 7);
    }

    private static void fullRun() {
        OnionNet net = new OnionNet();
        for (int i = 0; i < 8; i++) {
            net.relay(i);
            net.client(i);
        }
        for (int i = 0; i < 6; i++) {
            net.circuit(8 + i % 2, i, (i + 1) % 6, (i + 2) % 6);
            net.settle(200);
        }
        for (int i = 0; i < 24; i++) {
            net.stream(i % 6, 1);
            net.settle(200);
        }
        for (int i = 0; i < 140; i++) {
            int circuit = i % 6;
            int stream = 1 + i / 6 % 4;
            net.put(circuit, stream, i);
            net.push(circuit, stream);
            net.settle(200);
        }
    }
}
