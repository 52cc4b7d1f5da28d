import java.nio.file.Files;
import java.nio.file.Path;
import java.util.regex.Matcher;
import java.util.regex.Pattern;

/** What the text of the class shows of the rules of LANGUAGE.md: nothing stands there that they leave out. */
public final class LanguageTest {
    private static final Path SOURCE = Path.of("src", "main", "java", "GuildSeals.java");
    // The rules say: some sixty.
    private static final int MOST_LINES_OF_METHOD = 70;

    private static final String THROWN = "IllegalStateException|IllegalArgumentException|IndexOutOfBoundsException"
            + "|ArithmeticException|UnsupportedOperationException|NoSuchElementException|RuntimeException";

    // Each pattern is looked for in the text without comments and constants.
    private static final String[] LEFT_OUT = {
        "(?m)^(?!\\s*(case|default)\\b).*->", "::", "\\bfinally\\b", "\\bsynchronized\\b", "\\bassert\\b",
        "\\bpackage\\b", "\\bstatic\\s*\\{", "\\bprotected\\b", "\\bhashCode\\b", "\\bString toString\\b",
        "\\bboolean equals\\b", "Exact\\b", "\\bString\\s*\\[", "\\bSystem\\.(?!arraycopy\\b)", "\\bThread\\b",
        "\\bthrow new (?!(" + THROWN + ")\\(\"?\"?\\);)", "\\bcatch \\((?!(final )?(" + THROWN + ")\\b)",
        "\\bextends \\w*Exception\\b", "\\bjava\\.(?!util\\.\\w+;)"};

    private static int wrong = 0;

    public static void main(String[] args) throws Exception {
        String source = Files.readString(SOURCE);
        check(source.chars().allMatch(c -> c < 127), "all signs are below 127");
        String bare = source.replaceAll("(?s)/\\*.*?\\*/", "").replaceAll("//[^\n]*", "")
                .replaceAll("\"[^\"\n]*\"", "\"\"").replaceAll("'[^'\n]+'", "'x'");
        for (String pattern : LEFT_OUT) {
            check(!Pattern.compile(pattern).matcher(bare).find(), "no " + pattern);
        }
        checkImports(bare);
        checkStaticFields(bare);
        checkLengths(source);
        System.out.println("rules of LANGUAGE.md that the text shows, " + wrong + " wrong");
        if (wrong != 0) {
            System.exit(1);
        }
    }

    private static void checkImports(String bare) {
        Matcher imports = Pattern.compile("import ([\\w.]+);").matcher(bare);
        while (imports.find()) {
            check(imports.group(1).matches("java\\.util\\.(NoSuchElementException|ArrayList|List|Arrays|Iterator)"),
                    "import of " + imports.group(1));
        }
    }

    private static void checkStaticFields(String bare) {
        Matcher fields = Pattern.compile("\\bstatic (?!final\\b)(?!class\\b)[\\w\\[\\]]+ \\w+\\s*[=;]").matcher(bare);
        check(!fields.find(), "static fields are final");
    }

    private static void checkLengths(String source) {
        String[] lines = source.split("\n");
        int begin = -1;
        for (int i = 0; i < lines.length; i++) {
            if (lines[i].matches(" {4,8}(?! )[^=;]*\\)[^=;]*\\{") || lines[i].matches(" {12,16}throws .*\\{")) {
                begin = i;
            } else if (lines[i].matches(" {4,8}}") && begin >= 0) {
                check(i - begin < MOST_LINES_OF_METHOD, "too long: " + lines[begin].strip());
                begin = -1;
            }
        }
    }

    private static void check(boolean holds, String what) {
        if (!holds) {
            wrong++;
            System.out.println("not so: " + what);
        }
    }
}
