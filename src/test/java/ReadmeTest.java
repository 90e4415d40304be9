import java.io.File;
import java.lang.reflect.Field;
import java.lang.reflect.Modifier;
import java.nio.charset.StandardCharsets;
import java.nio.file.DirectoryStream;
import java.nio.file.Files;
import java.nio.file.Path;
import java.util.Set;
import java.util.TreeSet;
import java.util.regex.Matcher;
import java.util.regex.Pattern;
import javax.tools.JavaCompiler;
import javax.tools.ToolProvider;

/** What README.md says: how to use the class, and how to run its tests. */
public final class ReadmeTest {
    private static final Path README = Path.of("README.md");
    private static final Path DOC = Path.of("../shared/DOC.md");
    private static final Path TESTS = Path.of("src/test/java");
    /** A call with what it answers, as README.md tells both. */
    private static final Pattern TOLD = Pattern.compile("(x\\.\\w+\\(.*\\)); +// (-?\\d+|[A-Z]+)(: .*)?");

    private final Checks checks = new Checks();
    private final String readme;

    private ReadmeTest() throws Exception {
        readme = Files.readString(README, StandardCharsets.UTF_8);
    }

    public static void main(String[] args) throws Exception {
        ReadmeTest test = new ReadmeTest();
        test.examples();
        test.answers();
        test.calls();
        test.tests();
        test.commands();
        test.paths();
        test.checks.end();
    }

    private static int javac(String... args) {
        JavaCompiler compiler = ToolProvider.getSystemJavaCompiler();
        return compiler == null ? -1 : compiler.run(null, null, null, args);
    }

    /** All blocks of Java are one program, from the first line of README.md on. */
    private void examples() throws Exception {
        StringBuilder program = new StringBuilder("final class ReadmeExample {\n    static void run(Checks checks) {\n");
        Matcher block = Pattern.compile("(?s)```java\n(.*?)```").matcher(readme);
        int told = 0;
        while (block.find()) {
            for (String line : block.group(1).split("\n")) {
                Matcher m = TOLD.matcher(line);
                boolean isTold = m.matches();
                checks.holds("README.md tells the answer: " + line, isTold || !line.startsWith("x."));
                program.append(isTold ? dueBy(m) : line).append('\n');
                told += isTold ? 1 : 0;
            }
        }
        program.append("    }\n}\n");
        checks.holds("examples of README.md: " + told, told > 20);
        Path folder = Path.of(System.getProperty("java.class.path").split(File.pathSeparator)[0]);
        Path file = folder.resolve("ReadmeExample.java");
        Files.writeString(file, program, StandardCharsets.UTF_8);
        int failed = javac("-encoding", "UTF-8", "-cp", folder.toString(), "-d", folder.toString(), file.toString());
        checks.due("the examples of README.md compile", failed, 0);
        if (failed == 0) {
            var run = Class.forName("ReadmeExample").getDeclaredMethod("run", Checks.class);
            run.setAccessible(true);
            run.invoke(null, checks);
        }
    }

    private static String dueBy(Matcher told) {
        boolean isNamed = Character.isLetter(told.group(2).charAt(0));
        String want = (isNamed ? "DeputyTown." : "") + told.group(2);
        return "checks.due(\"README.md: " + told.group(1) + "\", " + told.group(1) + ", " + want + ");";
    }

    /** Each constant of the face, by its name, with what it is. */
    private void answers() throws Exception {
        for (Field f : DeputyTown.class.getDeclaredFields()) {
            if (!Modifier.isPublic(f.getModifiers())) {
                continue;
            }
            String row = switch (f.getName()) {
                case "LOST" -> "| `LOST` |";
                case "NONE" -> f.getInt(null) + " is `NONE`";
                default -> "| " + f.getInt(null) + " `" + f.getName() + "` |";
            };
            checks.holds("README.md: " + row, readme.contains(row));
        }
    }

    private void calls() throws Exception {
        Matcher part = Pattern.compile("(?m)^Ahead of the calls (.*) the interface says: ---- (.*)\\.$")
                .matcher(Files.readString(DOC, StandardCharsets.UTF_8));
        int parts = 0;
        for (; part.find(); parts++) {
            String row = "| " + part.group(2) + " | " + part.group(1) + " |";
            checks.holds("README.md: " + row, readme.contains("\n" + row + "\n"));
        }
        checks.due("parts of the face", parts, 5);
    }

    /** The table of tests names each test that .ci/run runs, and no other one. */
    private void tests() throws Exception {
        Set<String> want = new TreeSet<>();
        try (DirectoryStream<Path> files = Files.newDirectoryStream(TESTS, "*Test.java")) {
            for (Path file : files) {
                want.add(file.getFileName().toString().replace(".java", ""));
            }
        }
        Set<String> told = new TreeSet<>();
        Matcher row = Pattern.compile("(?m)^\\| `(\\w+Test)` \\|").matcher(readme);
        while (row.find()) {
            told.add(row.group(1));
        }
        checks.holds("README.md names the tests " + told + ", there are " + want, told.equals(want));
    }

    /** What README.md says to type: what it compiles is then there to be run. */
    private void commands() {
        Matcher line = Pattern.compile("(?m)^    (bash|javac|java) (.*)$").matcher(readme);
        int commands = 0;
        for (; line.find(); commands++) {
            String[] words = line.group(2).split(" ");
            switch (line.group(1)) {
                case "javac" -> checks.due("README.md: " + line.group().trim(), javac(words), 0);
                case "java" -> checks.holds("README.md: " + line.group().trim(), words.length == 3
                        && words[0].equals("-cp") && Files.exists(Path.of(words[1], words[2] + ".class")));
                default -> checks.holds("README.md: " + line.group().trim(), words.length == 1
                        && Files.isExecutable(Path.of(words[0])));
            }
        }
        checks.holds("README.md says how to run the tests", readme.contains("\n    bash .ci/run\n"));
        checks.due("commands of README.md", commands, 4);
    }

    private void paths() {
        Matcher path = Pattern.compile("`([.\\w]+(/[.\\w]+)+)/?`").matcher(readme);
        int paths = 0;
        for (; path.find(); paths++) {
            checks.holds("README.md: " + path.group(1) + " is there", Files.exists(Path.of(path.group(1))));
        }
        checks.holds("paths of README.md: " + paths, paths > 3);
    }
}
