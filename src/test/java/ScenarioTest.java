import java.nio.file.Files;
import java.nio.file.Path;
import java.util.List;
import java.util.regex.Matcher;
import java.util.regex.Pattern;
import java.util.stream.Stream;

/**
 * Runs the calls that the files in src/test/scenarios and src/test/boundaries tell, in the notation
 * of the document's examples, and the scenario by which README.md describes it. After each step the
 * laws are looked at, too.
 */
public final class ScenarioTest {
    private static final Path SCENARIOS = Path.of("src", "test", "scenarios");
    private static final Path BOUNDARIES = Path.of("src", "test", "boundaries");
    private static final Path README = Path.of("README.md");
    private static final String README_BEGIN = "```scenario";
    private static final String README_END = "```";
    private static final int PROMISES = 35;
    // What a portrait and the answers to a refusal need beside the calls of the scenario.
    private static final int CALLS_FOR_A_PORTRAIT = 20;
    // Portraits of all of some hundred equal calls would take long and tell nothing new.
    private static final int TIMES_WITH_LAWS = 20;
    private static final Pattern STEP =
            Pattern.compile("(?:(\\d+) times )?(\\w+)\\s*(?:\\(([^)]*)\\)|\"([^\"]*)\")\\s*->\\s*(.+)");

    // A semicolon and a blank, but not within quotation marks.
    private static final Pattern AFTER_STEP = Pattern.compile("; (?=(?:[^\"]*\"[^\"]*\")*[^\"]*$)|;$");

    private static int steps = 0;
    private static int wrong = 0;

    private Player player;
    private Portrait portrait;
    private boolean hasLaws;
    private String place;

    public static void main(String[] args) throws Exception {
        runFolder(SCENARIOS);
        runFolder(BOUNDARIES);
        runReadme();
        System.out.println(steps + " steps, " + wrong + " wrong");
        if (wrong != 0) {
            System.exit(1);
        }
    }

    private static void runFolder(Path folder) throws Exception {
        List<Path> files;
        try (Stream<Path> all = Files.list(folder)) {
            files = all.filter(f -> f.toString().endsWith(".txt")).sorted().toList();
        }
        for (int promise = 1; promise <= PROMISES; promise++) {
            Path due = folder.resolve(String.format("promise%02d.txt", promise));
            if (!files.contains(due)) {
                report(due + " is missing");
            }
        }
        for (Path file : files) {
            String name = file.getParent().getFileName() + "/" + file.getFileName();
            new ScenarioTest().runLines(name, Files.readAllLines(file));
        }
    }

    private static void runReadme() throws Exception {
        List<String> lines = Files.readAllLines(README);
        int before = steps;
        int begin = lines.indexOf(README_BEGIN) + 1;
        int length = lines.subList(begin, lines.size()).indexOf(README_END);
        if (begin > 0 && length > 0) {
            new ScenarioTest().runLines("README.md, line " + begin, lines.subList(begin, begin + length));
        }
        if (steps == before) {
            report("README.md shows no scenario");
        }
    }

    private void runLines(String name, List<String> lines) {
        for (int i = 0; i < lines.size(); i++) {
            String line = lines.get(i).strip();
            place = name + ":" + (i + 1) + ": ";
            if (line.startsWith("==")) {
                player = new Player();
                portrait = null;
            } else if (!line.isEmpty() && !line.startsWith("#") && !line.startsWith(">")) {
                for (String step : AFTER_STEP.split(line)) {
                    runStep(step.strip());
                }
            }
        }
    }

    private void runStep(String step) {
        steps++;
        Matcher m = STEP.matcher(step);
        if (!m.matches() || player == null) {
            report(place + "cannot read: " + step);
            return;
        }
        int times = m.group(1) == null ? 1 : Integer.parseInt(m.group(1));
        for (int i = 0; i < times; i++) {
            hasLaws = i < TIMES_WITH_LAWS;
            String got = resultOf(m, m.group(5).strip());
            if (!got.equals(m.group(5).strip())) {
                report(place + step + " ... but it answered " + got);
            }
        }
    }

    private String resultOf(Matcher step, String due) {
        String got;
        if (step.group(4) != null) {
            got = answerOfText(step.group(2), step.group(4));
        } else if (step.group(2).equals("written")) {
            got = written(step.group(3).strip());
        } else {
            got = answer(step.group(2), step.group(3).isBlank() ? new String[0] : step.group(3).strip().split(",\\s*"));
        }
        if (got.equals("throws UnsupportedOperationException") && due.startsWith("refused")) {
            return "refused " + player.answer("refusal", "false") + " " + player.answer("refusal", "true");
        }
        if (got.equals("throws IllegalArgumentException") && due.startsWith("error")) {
            return "error " + player.answer("errorPosition");
        }
        return got;
    }

    /** append "abc" appends a text; run "abc" runs it, too. */
    private String answerOfText(String name, String text) {
        String last = "nothing";
        portrait = null;
        for (char c : text.toCharArray()) {
            last = player.answer("append", String.valueOf((int) c));
        }
        return name.equals("append") ? last : answer(name);
    }

    private String written(String matter) {
        String length = answer("line", matter);
        if (length.startsWith("throws")) {
            return length;
        }
        StringBuilder text = new StringBuilder();
        for (int i = 0; i < Integer.parseInt(length); i++) {
            text.append(player.answer("character", String.valueOf(i)));
        }
        String beyond = player.answer("character", length);
        return beyond.equals("throws IndexOutOfBoundsException") ? text.toString() : "too long";
    }

    private String answer(String name, String... arguments) {
        boolean isLookedAt = hasLaws && player.callsLeft() > CALLS_FOR_A_PORTRAIT;
        Portrait before = !isLookedAt || portrait != null ? portrait : new Portrait(player.made());
        String answer = player.answer(name, arguments);
        portrait = isLookedAt ? new Portrait(player.made()) : null;
        if (isLookedAt) {
            for (String broken : Laws.brokenBy(name, answer, before, portrait)) {
                report(place + name + "(" + String.join(", ", arguments) + ") broke a law: " + broken);
            }
        }
        return answer;
    }

    private static void report(String what) {
        wrong++;
        System.out.println(what);
    }
}
