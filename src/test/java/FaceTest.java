import java.lang.reflect.Constructor;
import java.lang.reflect.Method;
import java.lang.reflect.Modifier;
import java.nio.file.Files;
import java.nio.file.Path;
import java.util.Arrays;
import java.util.List;
import java.util.TreeSet;
import java.util.regex.Matcher;
import java.util.regex.Pattern;

/** The class has the face that the document shows, with its exceptions, and no other. */
public final class FaceTest {
    private static final Path DOCUMENT = Path.of("..", "shared", "DOC.md");
    private static final Pattern METHOD =
            Pattern.compile("    public (\\w+) (\\w+)\\(([^)]*)\\)(?: throws ([^;]*))?;");

    // The rules say: some twelve classes, some twenty fields.
    private static final int MOST_CLASSES_INSIDE = 13;
    private static final int MOST_FIELDS = 24;

    private static int wrong = 0;

    public static void main(String[] args) throws Exception {
        TreeSet<String> due = faceOfDocument();
        TreeSet<String> got = faceOfClass();
        check(due.size() == 34, "the document shows 34 methods, read were " + due.size());
        for (String method : due) {
            check(got.contains(method), "missing: " + method);
        }
        for (String method : got) {
            check(due.contains(method), "too much: " + method);
        }
        checkClass();
        checkClassesInside();
        System.out.println(got.size() + " methods of the face, " + wrong + " wrong");
        if (wrong != 0) {
            System.exit(1);
        }
    }

    private static TreeSet<String> faceOfDocument() throws Exception {
        TreeSet<String> face = new TreeSet<>();
        for (String line : Files.readAllLines(DOCUMENT)) {
            Matcher m = METHOD.matcher(line);
            if (m.matches()) {
                String parameters = m.group(3).replaceAll("(\\w+) \\w+", "$1").replace(" ", "");
                String exceptions = m.group(4) == null ? "" : m.group(4).replace(" ", "");
                face.add(m.group(1) + " " + m.group(2) + "(" + parameters + ") " + exceptions);
            }
        }
        return face;
    }

    private static TreeSet<String> faceOfClass() {
        TreeSet<String> face = new TreeSet<>();
        for (Method method : GuildSeals.class.getDeclaredMethods()) {
            if (!Modifier.isPrivate(method.getModifiers())) {
                face.add(method.getReturnType() + " " + method.getName() + "("
                        + names(method.getParameterTypes()) + ") " + names(method.getExceptionTypes()));
            }
        }
        return face;
    }

    private static String names(Class<?>[] types) {
        List<String> names = Arrays.stream(types).map(Class::getSimpleName).toList();
        return String.join(",", names);
    }

    private static void checkClass() {
        check(Modifier.isPublic(GuildSeals.class.getModifiers()), "the class is public");
        check(Modifier.isFinal(GuildSeals.class.getModifiers()), "the class is final");
        Constructor<?>[] constructors = GuildSeals.class.getDeclaredConstructors();
        check(constructors.length == 1 && constructors[0].getParameterCount() == 0
                && Modifier.isPublic(constructors[0].getModifiers()), "one constructor, public");
        check(Arrays.stream(GuildSeals.class.getDeclaredFields())
                .allMatch(f -> Modifier.isPrivate(f.getModifiers())), "all fields are private");
    }

    /** Rules 1 and 11 of LANGUAGE.md. */
    private static void checkClassesInside() {
        TreeSet<String> face = new TreeSet<>();
        for (Method method : GuildSeals.class.getMethods()) {
            face.add(method.getName());
        }
        Class<?>[] inside = GuildSeals.class.getDeclaredClasses();
        check(inside.length <= MOST_CLASSES_INSIDE, "too many classes: " + inside.length);
        for (Class<?> type : inside) {
            int modifiers = type.getModifiers();
            check(!Modifier.isPublic(modifiers) && !Modifier.isProtected(modifiers), type + " is not public");
            for (Method method : type.getDeclaredMethods()) {
                check(!Modifier.isPrivate(method.getModifiers()) || !face.contains(method.getName()),
                        method + " bears a name of the face");
            }
            long fields = Arrays.stream(type.getDeclaredFields())
                    .filter(f -> !Modifier.isStatic(f.getModifiers())).count();
            check(fields <= MOST_FIELDS, type + " has " + fields + " fields");
        }
    }

    private static void check(boolean holds, String what) {
        if (!holds) {
            wrong++;
            System.out.println("not so: " + what);
        }
    }
}
