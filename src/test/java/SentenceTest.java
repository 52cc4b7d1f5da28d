import java.nio.file.Files;
import java.nio.file.Path;
import java.util.ArrayList;
import java.util.List;
import java.util.Set;
import java.util.TreeSet;
import java.util.stream.Stream;

/**
 * Each sentence of the document has a scenario of its own among the boundaries, under a line "> " that
 * quotes it, or stands in none.txt because it names no boundary; and each quotation is the document's.
 */
public final class SentenceTest {
    private static final Path DOCUMENT = Path.of("..", "shared", "DOC.md");
    private static final Path BOUNDARIES = Path.of("src", "test", "boundaries");
    private static final Path NONE = BOUNDARIES.resolve("none.txt");
    private static final Path EXAMPLES = Path.of("src", "test", "scenarios", "examples.txt");
    private static final String PROMISE = "Promise ";
    private static final String QUOTATION = "> ";
    private static final String IN = " | ";

    private static int wrong = 0;

    public static void main(String[] args) throws Exception {
        Set<String> due = new TreeSet<>();
        for (String section : Files.readString(DOCUMENT).split("\n## ")) {
            due.addAll(sentencesOf(section));
        }
        Set<String> told = new TreeSet<>();
        try (Stream<Path> files = Files.list(BOUNDARIES)) {
            for (Path file : files.filter(f -> !f.equals(NONE)).sorted().toList()) {
                told.addAll(quotationsOf(file));
            }
        }
        List<String> none = Files.readAllLines(NONE).stream()
                .filter(line -> line.startsWith(QUOTATION)).map(line -> line.substring(QUOTATION.length())).toList();
        due.stream().filter(s -> !told.contains(s) && !none.contains(s.substring(s.indexOf(IN) + IN.length())))
                .forEach(s -> report("without a test of its own: " + s));
        told.stream().filter(s -> !due.contains(s)).forEach(s -> report("not in the document: " + s));
        none.stream().filter(s -> due.stream().noneMatch(d -> d.endsWith(IN + s)))
                .forEach(s -> report("not in the document: " + s));
        System.out.println(due.size() + " sentences of the document, " + wrong + " wrong");
        if (wrong != 0) {
            System.exit(1);
        }
    }

    /** Each with its section before it, so that a sentence of two promises counts twice. */
    private static List<String> sentencesOf(String section) throws Exception {
        List<String> sentences = new ArrayList<>();
        String title = section.lines().findFirst().orElse("").replaceFirst(":.*", "");
        if (!title.startsWith(PROMISE) && !title.equals("Terms") && !title.equals("What it is")) {
            return sentences;
        }
        String body = section.substring(section.indexOf('\n') + 1);
        for (String paragraph : body.split("\n\\s*\n|\n(?=- )")) {
            String text = plain(paragraph).replaceFirst("^`[^`]*`: (?=[A-Z])", "").replaceFirst("^- ", "");
            if (isExample(text)) {
                checkExample(text);
            } else if (!text.isEmpty() && !text.startsWith("Ahead of the calls")) {
                String[] parts = title.startsWith(PROMISE) ? new String[] {text} : text.split("(?<=[.;]) ");
                Stream.of(parts).forEach(part -> sentences.add(title + IN + part));
            }
        }
        return sentences;
    }

    private static boolean isExample(String text) {
        return text.contains(") -> ");
    }

    private static void checkExample(String text) throws Exception {
        String examples = plain(Files.readString(EXAMPLES).replace("\n==", "; ==").replaceAll("\n(?=\\w)", "; "));
        String calls = text.replaceFirst("^[^:]*: ", "").replaceFirst("\\.$", "");
        if (!examples.replace(";;", ";").contains(calls)) {
            report("not an example of the tests: " + text);
        }
    }

    /** Each with the section that its file is about. */
    private static List<String> quotationsOf(Path file) throws Exception {
        List<String> quotations = new ArrayList<>();
        String name = file.getFileName().toString();
        String title = name.startsWith("promise") ? PROMISE + Integer.parseInt(name.substring(7, 9))
                : name.startsWith("intro") ? "What it is" : "Terms";
        String before = "";
        for (String line : Files.readAllLines(file)) {
            if (line.startsWith(QUOTATION)) {
                quotations.add(title + IN + line.substring(QUOTATION.length()));
            }
            if (before.startsWith(QUOTATION) && !line.startsWith("==")) {
                report(name + ": no scenario under " + before);
            }
            before = line.isEmpty() ? before : line;
        }
        if (before.startsWith(QUOTATION)) {
            report(name + ": no scenario under " + before);
        }
        return quotations;
    }

    private static String plain(String text) {
        return text.replaceAll("\\s+", " ").strip();
    }

    private static void report(String what) {
        wrong++;
        System.out.println(what);
    }
}
