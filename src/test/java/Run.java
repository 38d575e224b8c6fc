import java.lang.reflect.Field;
import java.lang.reflect.Method;
import java.util.ArrayList;
import java.util.HashMap;
import java.util.List;
import java.util.Map;

/**
 * One object and the calls it has had, never more than the document bears. Calls are told as texts:
 * "step 0 1 2 5 3 true". "tell pay 1;" lays a text on the tape and tells it, "tape pay 1;" lays it only.
 * "purse 5" is no call: it puts so many pence into the purse by hand.
 */
final class Run {
    static final int MOST_CALLS = 512;
    /** A text read once: the same ones come again and again. */
    private static final Map<String, Call> READ = new HashMap<>();

    private record Call(Method method, List<Object> arguments) { }

    private final Due due;
    private final ValleyGuides guides = new ValleyGuides();
    private int calls = 0;

    Run(Due due) {
        this.due = due;
    }

    int calls() {
        return calls;
    }

    long call(String text) {
        String name = text.indexOf(' ') < 0 ? text : text.substring(0, text.indexOf(' '));
        if (name.equals("tape") || name.equals("tell")) {
            return lay(text.substring(name.length() + 1), name.equals("tell"));
        }
        if (name.equals("purse")) {
            return setPurse(Integer.parseInt(text.substring(name.length() + 1)));
        }
        calls++;
        if (calls > MOST_CALLS) {
            throw new IllegalStateException("an object is used for at most " + MOST_CALLS + " calls");
        }
        Call call = READ.get(text);
        if (call == null) {
            Method method = Calls.named(guides, name);
            call = new Call(method, arguments(text, method));
            READ.put(text, call);
        }
        return Calls.answer(guides, call.method, call.arguments);
    }

    /** The answer of text(), or that of end(). */
    private long lay(String text, boolean toBeTold) {
        call("end 0");
        for (int i = 0; i < text.length(); i += 8) {
            call("feed " + Texts.eight(text, i));
        }
        long had = call("end " + text.length());
        return toBeTold ? call("text") : had;
    }

    /** No run of calls that an object bears brings the purse near its bound: so the field itself is set. */
    private long setPurse(int pence) {
        try {
            Object guild = field(guides, "guild").get(guides);
            Object now = field(guild, "now").get(guild);
            field(now, "purse").setInt(now, pence);
            return pence;
        } catch (ReflectiveOperationException thrown) {
            throw new IllegalStateException("the purse is held elsewhere now", thrown);
        }
    }

    private static Field field(Object object, String name) throws ReflectiveOperationException {
        Field field = object.getClass().getDeclaredField(name);
        field.setAccessible(true);
        return field;
    }

    private static List<Object> arguments(String text, Method method) {
        String[] words = text.split(" ");
        Class<?>[] types = method.getParameterTypes();
        if (words.length - 1 != types.length) {
            throw new IllegalStateException("not as many arguments: " + text);
        }
        List<Object> arguments = new ArrayList<>();
        for (int i = 0; i < types.length; i++) {
            arguments.add(argument(words[i + 1], types[i]));
        }
        return arguments;
    }

    private static Object argument(String word, Class<?> type) {
        if (type == boolean.class) {
            return word.equals("true");
        }
        return type == long.class ? (Object) Long.parseLong(word) : (Object) Integer.parseInt(word);
    }

    Run does(String... texts) {
        for (String text : texts) {
            call(text);
        }
        return this;
    }

    Run is(String text, long want) {
        due.is(text, call(text), want);
        return this;
    }

    /** The same call with 0, 1, .. in the place of #, and what it is to answer. */
    Run each(String text, long... wants) {
        for (int i = 0; i < wants.length; i++) {
            is(text.replace("#", Integer.toString(i)), wants[i]);
        }
        return this;
    }
}
