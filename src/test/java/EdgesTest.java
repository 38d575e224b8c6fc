import java.lang.reflect.Method;
import java.lang.reflect.Modifier;
import java.util.ArrayList;
import java.util.Arrays;
import java.util.Comparator;
import java.util.List;

/**
 * Every call with numbers at and behind all edges, on objects of nothing and on ones that are full of everything, a new one
 * whenever it has had the calls that the document bears. What later calls answer is free, but none may throw: so all of them
 * are made on one worn object too, and their answers passed by.
 */
public final class EdgesTest {
    private static final Due due = new Due();

    private final String when;
    private final boolean isFull;
    private final boolean isWorn;
    private ValleyGuides guides;
    private Model model;
    private int calls;

    private EdgesTest(String when, boolean isFull, boolean isWorn) {
        this.when = when;
        this.isFull = isFull;
        this.isWorn = isWorn;
        begin();
    }

    private void begin() {
        guides = new ValleyGuides();
        model = new Model();
        calls = 0;
        if (isFull) {
            fill();
        }
    }

    private void call(String name, Object... arguments) {
        one(name, List.of(arguments));
    }

    private void one(String name, List<Object> arguments) {
        calls++;
        if (calls <= Run.MOST_CALLS) {
            Calls.both(due, when, guides, model, name, arguments);
        } else {
            Calls.answer(guides, name, arguments);
        }
    }

    private void text(String text) {
        for (int i = 0; i < text.length(); i += 8) {
            call("feed", Texts.eight(text, i));
        }
        call("text");
    }

    /** As much of everything as there may be, and one more of each. */
    private void fill() {
        for (int i = 0; i <= 12; i++) {
            call("place", i % 10);
        }
        for (int i = 0; i < 12; i++) {
            call("step", i, (i + 1) % 12, i % 5, 1 + i % 4, i % 6, i % 3 == 0);
        }
        for (int i = 0; i <= 8; i++) {
            call("step", i, (i + 11) % 12, (i + 1) % 5, 1 + i % 9, i % 6, i % 2 == 0);
        }
        for (int r = 0; r <= 6; r++) {
            call("route", r);
            for (int i = 1; i <= 6; i++) {
                call("on", r, (r + i) % 12);
            }
        }
        for (int k = 0; k < 4; k++) {
            call("sheet", k, k % 3, 24);
            for (int i = 0; i < 24; i++) {
                call("lay", k, i, i % 4 * (k == 0 ? 1500 : 9));
            }
        }
        for (int i = 0; i <= 8; i++) {
            call("guide", 5 - i % 2, i, 999 - i);
            call("rope", i % 6, 9 - i % 10, 6 * i, 1 + i % 9);
        }
        for (int i = 0; i <= 9; i++) {
            call("person", i % 10);
            call("wish", i, 8 - i, i - 4);
            call("wish", i, (i + 1) % 9, 5 - i);
        }
        for (int i = 0; i <= 14; i++) {
            call("entry", i % 6, i % 8, 1 + 6 * i);
        }
        text("pay 1;ask 3;back quarter>80;bar wind>40;pay 9;pay 9;pay 9;pay 9;pay 9;pay 9;pay 9;bar day>990;");
        call("image");
        for (int i = 0; i <= 31; i++) {
            call("feed", Texts.eight("pay 1+1;", 0));
        }
    }

    private void everyCall() {
        Method[] methods = ValleyGuides.class.getDeclaredMethods();
        Arrays.sort(methods, Comparator.comparing(Method::getName));
        for (Method method : methods) {
            if (Modifier.isPublic(method.getModifiers())) {
                everyArgument(method, new ArrayList<>());
            }
        }
    }

    private void everyArgument(Method method, List<Object> sofar) {
        int at = sofar.size();
        if (at == method.getParameterCount()) {
            if (calls >= Run.MOST_CALLS && !isWorn) {
                begin();
            }
            one(method.getName(), sofar);
            return;
        }
        Class<?> type = method.getParameterTypes()[at];
        int[] numbers = at > 2 ? new int[] {Integer.MIN_VALUE, -1, 0, 2, 9, 96}
            : new int[] {Integer.MIN_VALUE, -10, -1, 0, 1, 3, 5, 6, 7, 8, 9, 11, 12, 13, 19, 20, 23, 24, 25, 95, 96, 240, 241,
                255, 999, 1000, 100000, 100001, 2000000000, Integer.MAX_VALUE};
        for (int number : method.getParameterCount() > 4 ? new int[] {-1, 0, 1, 5, 6, 10, 12} : numbers) {
            sofar.add(type == boolean.class ? (Object) (number == 0) : type == long.class ? (Object) (long) number : number);
            everyArgument(method, sofar);
            sofar.remove(at);
        }
    }

    public static void main(String[] arguments) {
        new EdgesTest("of nothing", false, false).everyCall();
        new EdgesTest("full", true, false).everyCall();
        EdgesTest worn = new EdgesTest("worn", true, true);
        worn.everyCall();
        worn.everyCall();
        due.close();
    }
}
