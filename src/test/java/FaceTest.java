import java.lang.management.ManagementFactory;
import java.lang.reflect.Constructor;
import java.lang.reflect.Field;
import java.lang.reflect.Method;
import java.lang.reflect.Modifier;
import java.nio.charset.StandardCharsets;
import java.nio.file.Files;
import java.nio.file.Path;
import java.util.Arrays;
import java.util.Map;
import java.util.Set;
import java.util.TreeMap;
import java.util.TreeSet;
import java.util.regex.Matcher;
import java.util.regex.Pattern;

/** The whole face of the class as the document tells it, and those rules of LANGUAGE.md that a machine can look at. */
public final class FaceTest {
    private static final Path DOC = Path.of("../shared/DOC.md");
    private static final Path SOURCE = Path.of("src/main/java/DeputyTown.java");
    private static final int LONGEST_METHOD = 60, MOST_CLASSES = 12, MOST_FIELDS = 20, DEEPEST_CALL = 8;
    /** The first line of a method or a constructor, of the class or of one inside it: its indent, its name. */
    private static final Pattern HEAD = Pattern.compile("^( {4}(?! )| {8}(?! ))[\\w\\[\\] ]*?(\\w+)\\([^;]*\\) \\{$");

    private final Checks checks = new Checks();

    public static void main(String[] args) throws Exception {
        FaceTest test = new FaceTest();
        test.face();
        test.constants();
        test.nestedClasses();
        test.headings();
        test.words();
        test.lengths();
        test.depth();
        test.room();
        test.checks.end();
    }

    private static Set<String> faceOfDoc() throws Exception {
        String doc = Files.readString(DOC, StandardCharsets.UTF_8);
        Set<String> face = new TreeSet<>();
        Matcher m = Pattern.compile("^    public (\\w+) (\\w+)\\(([^)]*)\\);$", Pattern.MULTILINE).matcher(doc);
        while (m.find()) {
            face.add(m.group(1) + " " + m.group(2) + "(" + m.group(3).replaceAll("(\\w+) \\w+", "$1") + ")");
        }
        return face;
    }

    private void face() throws Exception {
        Class<?> c = DeputyTown.class;
        checks.holds("public and final", Modifier.isPublic(c.getModifiers()) && Modifier.isFinal(c.getModifiers()));
        checks.holds("no package", c.getPackageName().isEmpty());
        Set<String> face = new TreeSet<>();
        Set<String> names = new TreeSet<>();
        for (Method m : c.getDeclaredMethods()) {
            if (Modifier.isPublic(m.getModifiers())) {
                StringBuilder told = new StringBuilder();
                for (Class<?> type : m.getParameterTypes()) {
                    told.append(told.length() == 0 ? "" : ", ").append(type.getName());
                }
                face.add(m.getReturnType().getName() + " " + m.getName() + "(" + told + ")");
                names.add(m.getName());
            }
        }
        Set<String> want = faceOfDoc();
        checks.due("methods of the document", want.size(), 32);
        namesOfNumbers();
        checks.holds("the methods are " + face + ", due are " + want, face.equals(want));
        for (Method m : c.getDeclaredMethods()) {
            checks.holds(m + " is public or private", Modifier.isPublic(m.getModifiers()) || Modifier.isPrivate(m.getModifiers()));
            checks.holds(m + " has a name of its own", Modifier.isPublic(m.getModifiers()) || !names.contains(m.getName()));
        }
        Constructor<?>[] made = c.getDeclaredConstructors();
        checks.holds("one constructor, public, without arguments", made.length == 1
                && Modifier.isPublic(made[0].getModifiers()) && made[0].getParameterCount() == 0);
        for (Class<?> inside : c.getDeclaredClasses()) {
            for (Method m : inside.getDeclaredMethods()) {
                checks.holds(m + " has a name of its own", !names.contains(m.getName()));
            }
        }
    }

    /** Each call takes its numbers by the names that the document tells. */
    private void namesOfNumbers() throws Exception {
        String source = Files.readString(SOURCE, StandardCharsets.UTF_8);
        Matcher head = Pattern.compile("(?m)^    public [\\w ]+\\(.*\\)(?=;$)").matcher(Files.readString(DOC, StandardCharsets.UTF_8));
        while (head.find()) {
            checks.holds("the source holds " + head.group().trim(), source.contains("\n" + head.group() + " {\n"));
        }
    }

    /** Each with its type and what it is, and no other field that can be seen from outside. */
    private void constants() throws Exception {
        Set<String> want = new TreeSet<>();
        Matcher line = Pattern.compile("(?m)^    public static final (\\w+) (.*);$")
                .matcher(Files.readString(DOC, StandardCharsets.UTF_8));
        while (line.find()) {
            for (String constant : line.group(2).split(", ")) {
                want.add(line.group(1) + " " + constant.replace("Long.MIN_VALUE", "" + Long.MIN_VALUE));
            }
        }
        checks.due("constants of the document", want.size(), 6);
        Set<String> constants = new TreeSet<>();
        for (Field f : DeputyTown.class.getDeclaredFields()) {
            int m = f.getModifiers();
            if (!Modifier.isPrivate(m)) {
                checks.holds(f + " is public, static, final", Modifier.isPublic(m) && Modifier.isStatic(m) && Modifier.isFinal(m));
                constants.add(f.getType().getName() + " " + f.getName() + " = " + f.get(null));
            }
        }
        checks.holds("the constants are " + constants + ", due are " + want, constants.equals(want));
    }

    private void nestedClasses() {
        Class<?>[] inside = DeputyTown.class.getDeclaredClasses();
        checks.holds("not too many classes", inside.length + 1 <= MOST_CLASSES);
        checks.holds("not too many fields", fieldsOf(DeputyTown.class) <= MOST_FIELDS);
        for (Class<?> c : inside) {
            int m = c.getModifiers();
            checks.holds(c + " is static", Modifier.isStatic(m));
            checks.holds(c + " is not of the face", !Modifier.isPublic(m) && !Modifier.isProtected(m));
            checks.holds(c + " has not too many fields", fieldsOf(c) <= MOST_FIELDS);
            for (Field f : c.getDeclaredFields()) {
                checks.holds(f + " is no static state", !Modifier.isStatic(f.getModifiers()) || Modifier.isFinal(f.getModifiers()));
            }
        }
    }

    /** "Ahead of the calls .. the interface says: ----": each call stands behind its heading, ahead of the next one. */
    private void headings() throws Exception {
        String source = Files.readString(SOURCE, StandardCharsets.UTF_8);
        Matcher told = Pattern.compile("(?m)^Ahead of the calls (.*) the interface says: (---- .*)\\.$")
                .matcher(Files.readString(DOC, StandardCharsets.UTF_8));
        int calls = 0;
        while (told.find()) {
            int from = source.indexOf("    // " + told.group(2) + "\n");
            checks.holds("the heading " + told.group(2), from >= 0);
            int to = source.indexOf("    // ----", from + 1);
            Matcher call = Pattern.compile("`(\\w+)`").matcher(told.group(1));
            for (; call.find(); calls++) {
                int at = Math.max(source.indexOf("    public int " + call.group(1) + "("),
                        source.indexOf("    public long " + call.group(1) + "("));
                checks.holds(call.group(1) + " under " + told.group(2), from < at && at < to);
            }
        }
        checks.due("calls under a heading", calls, 32);
    }

    private static int fieldsOf(Class<?> c) {
        int count = 0;
        for (Field f : c.getDeclaredFields()) {
            count += Modifier.isStatic(f.getModifiers()) ? 0 : 1;
        }
        return count;
    }

    /** The source without its comments and its signs in quotes. */
    private static String bareSource() throws Exception {
        return Files.readString(SOURCE, StandardCharsets.UTF_8)
                .replaceAll("(?s)/\\*.*?\\*/", "").replaceAll("//[^\n]*", "").replaceAll("'\\\\?.'", "0");
    }

    private void words() throws Exception {
        String source = bareSource();
        String[] ruledOut = {"throw", "throws", "try", "catch", "synchronized", "assert", "package", "volatile", "native",
            "System.out", "Thread", "Random", "Object", "equals", "hashCode", "toString", "Exact", "->", "::", "@", "\""};
        for (String word : ruledOut) {
            String pattern = Character.isLetter(word.charAt(0)) ? "\\b" + Pattern.quote(word) + "\\b" : Pattern.quote(word);
            checks.holds("the source is without " + word, !Pattern.compile(pattern).matcher(source).find());
        }
        Matcher imports = Pattern.compile("^import (.*);$", Pattern.MULTILINE).matcher(source);
        while (imports.find()) {
            checks.holds("import " + imports.group(1), Set.of("java.util.Arrays", "java.util.ArrayList", "java.util.List")
                    .contains(imports.group(1)));
        }
        Matcher library = Pattern.compile("\\b(Arrays|System|Math|Integer|Long)\\.\\w+").matcher(source);
        while (library.find()) {
            checks.holds("the library's " + library.group(), Set.of("Arrays.fill", "System.arraycopy", "Math.min",
                    "Integer.bitCount", "Long.MIN_VALUE").contains(library.group()));
        }
        for (int i = 0; i < source.length(); i++) {
            if (source.charAt(i) > 127) {
                checks.holds("sign " + (int) source.charAt(i) + " in the source", false);
            }
        }
    }

    /** A method ends where the line with its own indent's brace stands. */
    private void lengths() throws Exception {
        String[] lines = bareSource().split("\n");
        for (int from = 0; from < lines.length; from++) {
            Matcher head = HEAD.matcher(lines[from]);
            if (!isHead(head)) {
                continue;
            }
            int to = endOf(lines, from, head.group(1));
            checks.holds("short: " + lines[from].trim(), to - from < LONGEST_METHOD);
            checks.holds("at most seven parameters: " + lines[from].trim(), lines[from].split(",").length <= 7);
        }
    }

    private static boolean isHead(Matcher head) {
        return head.find() && !Set.of("for", "if", "while", "switch").contains(head.group(2));
    }

    private static int endOf(String[] lines, int from, String indent) {
        int to = from;
        while (!lines[to].equals(indent + "}")) {
            to++;
        }
        return to;
    }

    /** Methods are told apart by their names alone, so what this finds is no less deep than what there is. */
    private void depth() throws Exception {
        String[] lines = bareSource().split("\n");
        Map<String, Set<String>> calls = new TreeMap<>();
        for (int from = 0; from < lines.length; from++) {
            Matcher head = HEAD.matcher(lines[from]);
            if (isHead(head)) {
                Set<String> called = calls.computeIfAbsent(head.group(2), name -> new TreeSet<>());
                String body = String.join("\n", Arrays.copyOfRange(lines, from + 1, endOf(lines, from, head.group(1))));
                Matcher call = Pattern.compile("(?<!Arrays\\.)(?<!System\\.)(?<!Math\\.)(?<!Integer\\.)\\b(\\w+)\\(").matcher(body);
                while (call.find()) {
                    called.add(call.group(1));
                }
            }
        }
        checks.holds("methods found: " + calls.size(), calls.size() > 80);
        for (String name : calls.keySet()) {
            int deep = depthOf(name, calls, 1);
            checks.holds("calls of " + name + " go " + deep + " deep", deep <= DEEPEST_CALL);
        }
    }

    /** More than it may be, if methods call one another in a ring. */
    private static int depthOf(String name, Map<String, Set<String>> calls, int open) {
        int deepest = open;
        if (open <= DEEPEST_CALL) {
            for (String called : calls.get(name)) {
                if (calls.containsKey(called)) {
                    deepest = Math.max(deepest, depthOf(called, calls, open + 1));
                }
            }
        }
        return deepest;
    }

    /** All calls of one run live in one room: what a run makes must stay far below it. */
    private void room() {
        com.sun.management.ThreadMXBean bean = (com.sun.management.ThreadMXBean) ManagementFactory.getThreadMXBean();
        if (!bean.isThreadAllocatedMemorySupported()) {
            return;
        }
        manyCalls();
        long id = Thread.currentThread().getId();
        long before = bean.getThreadAllocatedBytes(id);
        manyCalls();
        long made = bean.getThreadAllocatedBytes(id) - before;
        checks.holds("a run of 500 calls makes " + made + " bytes", made < 1 << 16);
    }

    private static int manyCalls() {
        String text = "e;t111;s211;m311;t411;s511;m611;t711;s011";
        DeputyTown x = new DeputyTown();
        int sum = x.sheet(0, 0, text.length());
        for (int i = 0; i < text.length(); i++) {
            sum += x.put(0, i, text.charAt(i));
        }
        for (int k = 0; k < 20; k++) {
            sum += x.town(0, 0, 0, text.length()) + x.smash(0, 0, 29) + x.reading(0, 1);
            sum += x.frail(4, 0) + x.plot(0) + x.mend(0) + x.wave(0) + x.failed(2) + x.laws() + x.ring();
            sum += x.undone(29) + x.serves(29) + x.first(0) + x.by(0, 29) + (int) x.odds(0, 0);
            sum += x.sheet(1, 2, 60) + x.copy(0, 0, 0, 1, 9) + x.tell(2) + x.call(2) + x.copy(0, 1, 0, 0, 9);
        }
        return sum;
    }
}
