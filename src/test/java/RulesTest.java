import java.io.IOException;
import java.lang.management.ManagementFactory;
import java.lang.reflect.Constructor;
import java.lang.reflect.Field;
import java.lang.reflect.Method;
import java.lang.reflect.Modifier;
import java.nio.file.Files;
import java.nio.file.Path;
import java.util.ArrayList;
import java.util.Arrays;
import java.util.List;
import java.util.Map;
import java.util.Set;
import java.util.TreeMap;
import java.util.TreeSet;
import java.util.regex.Matcher;
import java.util.regex.Pattern;

/** The face that the document tells, the rules of LANGUAGE.md that can be seen, and that calls make nothing. */
public final class RulesTest {
    private static final Path PROGRAM = Path.of("src/main/java/TwiceRunning.java");
    private static final Path DOCUMENT = Path.of("../shared/DOC.md");
    private static int wrong = 0;

    private static void check(boolean right, String what) {
        if (!right) {
            wrong++;
            System.out.println("wrong: " + what);
        }
    }

    private static TreeSet<String> faceOfDocument() throws IOException {
        TreeSet<String> all = new TreeSet<>();
        Matcher m = Pattern.compile("    public (int|long) (\\w+)\\(([^)]*)\\);").matcher(Files.readString(DOCUMENT));
        while (m.find()) {
            int parameters = m.group(3).isEmpty() ? 0 : m.group(3).split(",").length;
            all.add(m.group(1) + " " + m.group(2) + " " + parameters);
        }
        return all;
    }

    private static void face() throws IOException {
        TreeSet<String> shown = new TreeSet<>();
        for (Method m : TwiceRunning.class.getDeclaredMethods()) {
            if (Modifier.isPublic(m.getModifiers())) {
                shown.add(m.getReturnType() + " " + m.getName() + " " + m.getParameterCount());
                check(Arrays.stream(m.getParameterTypes()).allMatch(t -> t == int.class), m.toString());
            } else {
                check(Modifier.isPrivate(m.getModifiers()), m.toString());
            }
        }
        TreeSet<String> due = faceOfDocument();
        check(due.size() == 44, "the document has " + due.size() + " methods");
        check(shown.equals(due), "the face is " + shown);
        Constructor<?>[] makers = TwiceRunning.class.getDeclaredConstructors();
        check(makers.length == 1 && Modifier.isPublic(makers[0].getModifiers()), "constructors");
        for (Field f : TwiceRunning.class.getDeclaredFields()) {
            check(Modifier.isPrivate(f.getModifiers()), f.toString());
        }
        check(Modifier.isFinal(TwiceRunning.class.getModifiers()), "the class is final");
    }

    private static List<Class<?>> classes() {
        List<Class<?>> all = new ArrayList<>(List.of(TwiceRunning.class));
        all.addAll(Arrays.asList(TwiceRunning.class.getDeclaredClasses()));
        return all;
    }

    private static void classesInside() {
        TreeSet<String> names = new TreeSet<>();
        for (Method m : TwiceRunning.class.getDeclaredMethods()) {
            if (Modifier.isPublic(m.getModifiers())) {
                names.add(m.getName());
            }
        }
        check(classes().size() <= 12, "too many classes");
        for (Class<?> c : classes()) {
            boolean inside = c != TwiceRunning.class;
            check(!inside || Modifier.isStatic(c.getModifiers()), c + " is not static");
            int fields = 0;
            for (Field f : c.getDeclaredFields()) {
                boolean isStatic = Modifier.isStatic(f.getModifiers());
                check(!isStatic || Modifier.isFinal(f.getModifiers()), f + " is static and changes");
                fields += isStatic ? 0 : 1;
            }
            check(fields <= 20, c + " has " + fields + " fields");
            for (Method m : c.getDeclaredMethods()) {
                check(m.getParameterCount() <= 7, m + " has too many parameters");
                check(!inside || !names.contains(m.getName()), m + " bears the name of a public one");
            }
        }
    }

    private static String codeAlone(String source) {
        return source.replaceAll("(?s)/\\*.*?\\*/", "").replaceAll("//[^\n]*", "")
            .replaceAll("\"[^\"\n]*\"", "\"\"").replaceAll("'[^'\n]+'", "' '");
    }

    private static void words() throws IOException {
        String code = codeAlone(Files.readString(PROGRAM));
        for (String word : List.of("throw", "throws", "try", "catch", "finally", "synchronized", "assert", "package",
                "import", "hashCode", "toString", "volatile", "native", "var", "double", "float", "Object")) {
            check(!Pattern.compile("\\b" + word + "\\b").matcher(code).find(), "the word " + word);
        }
        check(!code.contains("->") && !code.contains("::"), "a lambda or a method reference");
        check(!code.contains("Exact"), "a function whose name ends in Exact");
        Matcher library = Pattern.compile("\\b(System|Math|Integer|Long|Arrays|Thread|Runtime)\\.(\\w+)").matcher(code);
        while (library.find()) {
            check(List.of("System.arraycopy", "Math.min", "Math.max").contains(library.group()), library.group());
        }
        check(Files.readString(PROGRAM).chars().allMatch(c -> c < 128), "a sign above 127");
    }

    private static void methodLengths() throws IOException {
        int length = 0;
        for (String line : Files.readAllLines(PROGRAM)) {
            boolean begins = line.matches(" {4}( {4})?\\S.*\\) \\{") && !line.contains(" class ");
            boolean ends = line.matches(" {4}( {4})?\\}");
            length = begins ? 1 : length + 1;
            check(!ends || length <= 60, "a method of " + length + " lines ends in: " + line);
        }
    }

    private record Written(String header, String name, String body) { }

    private static List<Written> methods() throws IOException {
        List<Written> all = new ArrayList<>();
        Matcher m = Pattern.compile("(?ms)^( {4}(?: {4})?)([\\w\\[\\] ]*?(\\w+)\\([^)\n]*\\)) \\{\n(.*?)^\\1\\}")
            .matcher(codeAlone(Files.readString(PROGRAM)));
        while (m.find()) {
            all.add(new Written(m.group(2), m.group(3), m.group(4)));
        }
        return all;
    }

    /** Rule 8: a method that calls itself is private and static, and carries its depth as an argument. */
    private static void recursion() throws IOException {
        int found = 0;
        for (Written method : methods()) {
            if (Pattern.compile("(?<![.\\w])" + method.name + "\\(").matcher(method.body).find()) {
                found++;
                check(method.header.startsWith("private static "), method.header + " calls itself and is not static");
                check(method.header.contains("int depth"), method.header + " calls itself without a depth");
            }
        }
        check(found == 1, found + " methods call themselves");
    }

    /** How deep calls go from methods of this name; one that is open already counts once more. */
    private static int depthOf(String name, Map<String, Set<String>> calls, List<String> open) {
        int deepest = 0;
        if (calls.containsKey(name) && !open.contains(name)) {
            open.add(name);
            for (String called : calls.get(name)) {
                deepest = Math.max(deepest, depthOf(called, calls, open));
            }
            open.remove(name);
        }
        return deepest + 1;
    }

    /** Rule 11: calls that are no recursion go at most eight deep. */
    private static void callsAreNotDeep() throws IOException {
        Map<String, Set<String>> calls = new TreeMap<>();
        for (Written method : methods()) {
            Set<String> called = calls.computeIfAbsent(method.name, name -> new TreeSet<>());
            Matcher m = Pattern.compile("\\b(\\w+)\\(").matcher(method.body);
            while (m.find()) {
                called.add(m.group(1));
            }
        }
        check(calls.size() > 100, "only " + calls.size() + " names of methods were seen");
        for (String name : calls.keySet()) {
            int depth = depthOf(name, calls, new ArrayList<>());
            check(depth <= 8, name + " calls " + depth + " deep");
        }
    }

    private static void bigLeague(TwiceRunning x) {
        for (int s = 0; s < 6; s++) {
            x.side(s, 9 - s);
        }
        for (int g = 0; g < 8; g++) {
            x.game(g % 6, (g + 1 + g / 3) % 6, 1 + g);
        }
        for (int i = 0; i < 40; i++) {
            x.sheet(0, 8, 40);
            x.write(0, i, i % 6);
        }
    }

    private static void dearestCalls(TwiceRunning x) {
        for (int s = 0; s < 6; s++) {
            x.kindFor(s);
            x.tellsFor(s);
            x.lawFor(s);
            x.best(s);
            x.order(s);
            x.tries(s, 40);
            x.first(s, 0);
            x.mean(s, 1);
            x.least(s, 5, 0);
            x.most(s);
        }
        x.ways();
        x.gains();
        x.wronged();
        x.feed(0x6c617731, 4);
        x.text();
        x.judge(0);
        x.load(0);
        x.image();
        x.undo();
        x.anew();
    }

    /** All calls of a run live in one room, so calls make no objects; what the first ones load is left aside. */
    private static void nothingIsMade() {
        com.sun.management.ThreadMXBean bean = (com.sun.management.ThreadMXBean) ManagementFactory.getThreadMXBean();
        TwiceRunning x = new TwiceRunning();
        bigLeague(x);
        dearestCalls(x);
        long id = Thread.currentThread().getId();
        bean.getThreadAllocatedBytes(id);
        long before = bean.getThreadAllocatedBytes(id);
        for (int i = 0; i < 7; i++) {
            dearestCalls(x);
        }
        long made = bean.getThreadAllocatedBytes(id) - before;
        check(made < 1000, "the calls made " + made + " bytes");
    }

    public static void main(String[] args) throws IOException {
        face();
        classesInside();
        words();
        methodLengths();
        recursion();
        callsAreNotDeep();
        nothingIsMade();
        System.out.println(wrong == 0 ? "the rules are kept" : wrong + " rules are not kept");
        if (wrong != 0) {
            System.exit(1);
        }
    }
}
