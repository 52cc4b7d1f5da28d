import java.lang.reflect.InvocationTargetException;
import java.lang.reflect.Method;
import java.lang.reflect.Modifier;
import java.net.URL;
import java.net.URLClassLoader;
import java.nio.file.Files;
import java.nio.file.Path;
import java.util.List;
import java.util.Set;
import java.util.TreeSet;
import java.util.concurrent.Callable;
import java.util.regex.Matcher;
import java.util.regex.Pattern;
import java.util.stream.Collectors;
import java.util.stream.Stream;
import javax.tools.JavaCompiler;
import javax.tools.ToolProvider;

/**
 * README.md says how it is: the calls that it shows answer as it says, it shows each method of the
 * face and no other, and it names the tests that there are. ScenarioTest runs its scenarios.
 */
public final class ReadmeTest {
    private static final Path README = Path.of("README.md");
    private static final Path TESTS = Path.of("src", "test", "java");
    private static final Path RUN = Path.of(".ci", "run");
    private static final String GENERATED = "ReadmeCalls";

    private static final Pattern BLOCK = Pattern.compile("(?s)\n```java\n(.*?)\n```\n");
    // A new variable at most, a call, and its answer up to a colon or the end.
    private static final Pattern CALL = Pattern.compile(
            "( *)(?:(\\w+ (\\w+)) = )?(seals\\.\\w+\\(.*\\)); *(?:// (throws \\w+|[^:]+)(?::.*)?)?");

    private static int answers = 0;
    private static int wrong = 0;

    public static void main(String[] args) throws Exception {
        String readme = Files.readString(README);
        makeCalls(blocksOf(readme));
        checkMethods(readme);
        checkTests(readme);
        checkPaths(readme);
        System.out.println(answers + " answers of README.md, " + wrong + " wrong");
        if (wrong != 0 || answers == 0) {
            System.exit(1);
        }
    }

    /** Called by what README.md shows: the call in a line of it, and the answer that stands there. */
    public static void due(String line, String due, Callable<Object> call) {
        answers++;
        String got;
        try {
            got = String.valueOf(call.call());
        } catch (Exception e) {
            got = "throws " + e.getClass().getSimpleName();
        }
        check(got.equals(due), line + " ... but it answered " + got);
    }

    private static List<String> blocksOf(String readme) {
        return BLOCK.matcher(readme).results().map(block -> block.group(1)).toList();
    }

    private static void makeCalls(List<String> blocks) throws Exception {
        Path folder = Files.createTempDirectory("readme");
        Path source = folder.resolve(GENERATED + ".java");
        Path classes = folder.resolve(GENERATED + ".class");
        try {
            Files.writeString(source, programOf(blocks));
            compile(source, folder);
            try (URLClassLoader loader = new URLClassLoader(new URL[] {folder.toUri().toURL()})) {
                Class<?> calls = loader.loadClass(GENERATED);
                for (int i = 0; i < blocks.size(); i++) {
                    run(calls.getMethod("block" + i));
                }
            }
        } finally {
            Files.deleteIfExists(classes);
            Files.deleteIfExists(source);
            Files.deleteIfExists(folder);
        }
    }

    private static void run(Method block) throws Exception {
        try {
            block.invoke(null);
        } catch (InvocationTargetException e) {
            check(false, block.getName() + " breaks with " + e.getCause());
        }
    }

    private static void compile(Path source, Path folder) {
        JavaCompiler compiler = ToolProvider.getSystemJavaCompiler();
        if (compiler == null) {
            throw new IllegalStateException("this java has no compiler");
        }
        int result = compiler.run(null, null, null, "-cp", System.getProperty("java.class.path"),
                "-d", folder.toString(), source.toString());
        if (result != 0) {
            throw new IllegalStateException("what README.md shows can't be compiled");
        }
    }

    private static String programOf(List<String> blocks) {
        StringBuilder program = new StringBuilder("public final class " + GENERATED + " {\n");
        for (int i = 0; i < blocks.size(); i++) {
            program.append("public static void block").append(i).append("() {\n");
            blocks.get(i).lines().forEach(line -> program.append(statementOf(line)).append("\n"));
            program.append("}\n");
        }
        return program.append("}\n").toString();
    }

    private static String statementOf(String line) {
        Matcher m = CALL.matcher(line);
        if (!m.matches() || m.group(5) == null) {
            // The calls within a loop have many answers.
            check(line.startsWith(" ") || !line.contains("seals."), line + " ... is shown without its answer");
            return line;
        }
        String told = quoted(line.strip()) + ", " + quoted(m.group(5).strip()) + ", () -> ";
        if (m.group(2) == null) {
            return "ReadmeTest.due(" + told + m.group(4) + ");";
        }
        return m.group(2) + " = " + m.group(4) + "; ReadmeTest.due(" + told + m.group(3) + ");";
    }

    private static String quoted(String text) {
        return "\"" + text.replace("\\", "\\\\").replace("\"", "\\\"") + "\"";
    }

    private static void checkMethods(String readme) {
        Set<String> face = new TreeSet<>();
        for (Method method : GuildSeals.class.getDeclaredMethods()) {
            if (Modifier.isPublic(method.getModifiers())) {
                face.add(method.getName());
            }
        }
        Set<String> called = found(String.join("\n", blocksOf(readme)), "seals\\.(\\w+)\\(");
        Set<String> told = found(readme, "\n- `(?:\\w+ )?(\\w+)\\([^)]*\\)`");
        check(face.equals(called), "the methods of the face are " + face + ", called in README.md are " + called);
        check(face.equals(told), "the methods of the face are " + face + ", told of in README.md are " + told);
    }

    private static void checkTests(String readme) throws Exception {
        Set<String> there = new TreeSet<>();
        try (Stream<Path> files = Files.list(TESTS)) {
            files.map(f -> f.getFileName().toString()).filter(f -> f.endsWith("Test.java")).forEach(there::add);
        }
        Set<String> told = found(readme, "\n- `src/test/java/(\\w+Test\\.java)`");
        check(there.equals(told), "the tests are " + there + ", README.md tells of " + told);
        String script = Files.readString(RUN);
        check(Files.isExecutable(RUN), RUN + " can be run");
        for (String part : List.of("src/main/java/GuildSeals.java", "src/test/java/*Test.java", "../shared/tests")) {
            check(script.contains(part) && readme.contains(part), RUN + " and README.md tell of " + part);
        }
    }

    /** Names in backquotes with a slash are files or folders, those of the shared folder, too. */
    private static void checkPaths(String readme) {
        Set<String> paths = found(readme, "`([\\w.]+/[\\w./]+)`");
        check(!paths.isEmpty(), "README.md names files");
        for (String path : paths) {
            check(Files.exists(Path.of(path)), path + " is there");
        }
    }

    private static Set<String> found(String text, String pattern) {
        return Pattern.compile(pattern).matcher(text).results().map(m -> m.group(1))
                .collect(Collectors.toCollection(TreeSet::new));
    }

    private static void check(boolean holds, String what) {
        if (!holds) {
            wrong++;
            System.out.println("not so: " + what);
        }
    }
}
