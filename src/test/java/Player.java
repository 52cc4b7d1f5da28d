import java.lang.reflect.InvocationTargetException;
import java.lang.reflect.Method;
import java.util.ArrayList;
import java.util.HashMap;
import java.util.List;
import java.util.Map;

/** An object under test, with the calls made of it, so that another object can be brought to where it is. */
final class Player {
    /** The document promises nothing of an object after so many calls. */
    static final int MOST_CALLS = 512;

    /** The answer of a call that throws what the document does not name for it begins so. */
    static final String UNDECLARED = "breaks with ";

    private static final Map<String, Method> METHODS = new HashMap<>();

    static {
        for (Method method : GuildSeals.class.getMethods()) {
            METHODS.put(method.getName(), method);
        }
    }

    /** A call with its arguments, as the document's examples write it. */
    static final class Call {
        final String text;
        final String name;
        private final Method method;
        private final Object[] values;

        Call(String name, String... arguments) {
            this.name = name;
            text = name + "(" + String.join(", ", arguments) + ")";
            method = METHODS.get(name);
            if (method == null || method.getParameterCount() != arguments.length) {
                throw new IllegalStateException("no such method: " + text);
            }
            values = new Object[arguments.length];
            for (int i = 0; i < values.length; i++) {
                values[i] = value(method.getParameterTypes()[i], arguments[i]);
            }
        }

        private static Object value(Class<?> type, String text) {
            if (type == boolean.class) {
                return Boolean.valueOf(text);
            }
            return type == char.class ? (Object) (char) Integer.parseInt(text) : (Object) Integer.valueOf(text);
        }
    }

    private final GuildSeals seals = new GuildSeals();
    private final List<Call> made = new ArrayList<>();

    Player() {
    }

    /** A new object of which these calls have been made. */
    Player(List<Call> calls) {
        for (Call call : calls) {
            answer(call);
        }
    }

    List<Call> made() {
        return new ArrayList<>(made);
    }

    int callsLeft() {
        return MOST_CALLS - made.size();
    }

    /** The answer as the scenarios write it; an exception counts by its very class, and must be declared. */
    String answer(Call call) {
        if (callsLeft() == 0) {
            throw new IllegalStateException("more calls than the document allows");
        }
        made.add(call);
        try {
            return String.valueOf(call.method.invoke(seals, call.values));
        } catch (InvocationTargetException e) {
            Class<?> thrown = e.getCause().getClass();
            boolean isDeclared = List.of(call.method.getExceptionTypes()).contains(thrown);
            return (isDeclared ? "throws " : UNDECLARED) + thrown.getSimpleName();
        } catch (IllegalAccessException e) {
            throw new IllegalStateException(e);
        }
    }

    String answer(String name, String... arguments) {
        return answer(new Call(name, arguments));
    }
}
