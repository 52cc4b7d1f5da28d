import java.lang.reflect.InvocationTargetException;
import java.lang.reflect.Method;
import java.nio.file.Files;
import java.nio.file.Path;
import java.util.ArrayList;
import java.util.List;
import java.util.regex.Matcher;
import java.util.regex.Pattern;
import java.util.stream.Stream;

/**
 * Runs the calls that the files in src/test/scenarios tell, in the notation of the document's
 * examples; README.md describes it.
 */
public final class ScenarioTest {
    private static final Path FOLDER = Path.of("src", "test", "scenarios");
    private static final int PROMISES = 35;
    private static final Pattern STEP =
            Pattern.compile("(\\w+)\\s*(?:\\(([^)]*)\\)|\"([^\"]*)\")\\s*->\\s*(.+)");

    private static int steps = 0;
    private static int wrong = 0;

    public static void main(String[] args) throws Exception {
        List<Path> files;
        try (Stream<Path> all = Files.list(FOLDER)) {
            files = all.filter(f -> f.toString().endsWith(".txt")).sorted().toList();
        }
        for (int promise = 1; promise <= PROMISES; promise++) {
            Path due = FOLDER.resolve(String.format("promise%02d.txt", promise));
            if (!files.contains(due)) {
                report(due.toString(), "is missing");
            }
        }
        for (Path file : files) {
            runFile(file);
        }
        System.out.println(steps + " steps of " + files.size() + " files, " + wrong + " wrong");
        if (wrong != 0) {
            System.exit(1);
        }
    }

    private static void runFile(Path file) throws Exception {
        GuildSeals seals = null;
        List<String> lines = Files.readAllLines(file);
        for (int i = 0; i < lines.size(); i++) {
            String line = lines.get(i).strip();
            String place = file.getFileName() + ":" + (i + 1);
            if (line.startsWith("==")) {
                seals = new GuildSeals();
            } else if (!line.isEmpty() && !line.startsWith("#")) {
                for (String step : line.split("; |;$")) {
                    runStep(seals, place, step.strip());
                }
            }
        }
    }

    private static void runStep(GuildSeals seals, String place, String step) throws Exception {
        steps++;
        Matcher m = STEP.matcher(step);
        if (!m.matches() || seals == null) {
            report(place, "cannot read: " + step);
            return;
        }
        String due = m.group(4).strip();
        String got;
        if (m.group(3) != null) {
            got = answerOfText(seals, m.group(1), m.group(3));
        } else if (m.group(1).equals("written")) {
            got = written(seals, m.group(2).strip());
        } else {
            got = answer(seals, m.group(1), split(m.group(2)));
        }
        if (got.equals("throws UnsupportedOperationException") && due.startsWith("refused")) {
            got = "refused " + seals.refusal(false) + " " + seals.refusal(true);
        }
        if (!got.equals(due)) {
            report(place, step + " ... but it answered " + got);
        }
    }

    /** append "abc" appends a text; run "abc" runs it, too. */
    private static String answerOfText(GuildSeals seals, String name, String text) throws Exception {
        String last = "nothing";
        for (char c : text.toCharArray()) {
            last = answer(seals, "append", List.of(String.valueOf((int) c)));
        }
        return name.equals("append") ? last : answer(seals, name, List.of());
    }

    private static String written(GuildSeals seals, String matter) throws Exception {
        String length = answer(seals, "line", List.of(matter));
        if (length.startsWith("throws")) {
            return length;
        }
        StringBuilder text = new StringBuilder();
        for (int i = 0; i < Integer.parseInt(length); i++) {
            text.append(seals.character(i));
        }
        String beyond = answer(seals, "character", List.of(length));
        return beyond.equals("throws IndexOutOfBoundsException") ? text.toString() : "too long";
    }

    private static List<String> split(String arguments) {
        List<String> all = new ArrayList<>();
        for (String argument : arguments.split(",")) {
            if (!argument.isBlank()) {
                all.add(argument.strip());
            }
        }
        return all;
    }

    private static String answer(GuildSeals seals, String name, List<String> arguments) throws Exception {
        Method method = methodOf(name);
        Object[] values = new Object[arguments.size()];
        for (int i = 0; i < values.length; i++) {
            values[i] = value(method.getParameterTypes()[i], arguments.get(i));
        }
        try {
            return String.valueOf(method.invoke(seals, values));
        } catch (InvocationTargetException e) {
            return "throws " + e.getCause().getClass().getSimpleName();
        }
    }

    private static Object value(Class<?> type, String text) {
        if (type == boolean.class) {
            return Boolean.valueOf(text);
        }
        return type == char.class ? (Object) (char) Integer.parseInt(text) : (Object) Integer.valueOf(text);
    }

    private static Method methodOf(String name) {
        for (Method method : GuildSeals.class.getDeclaredMethods()) {
            if (method.getName().equals(name)) {
                return method;
            }
        }
        throw new IllegalStateException("no method " + name);
    }

    private static void report(String place, String what) {
        wrong++;
        System.out.println(place + ": " + what);
    }
}
