import java.lang.reflect.InvocationTargetException;
import java.lang.reflect.Method;
import java.util.List;

/** Calls a method by its name, on the class or on the model. */
final class Calls {
    private Calls() {
    }

    static Method named(Object object, String name) {
        for (Method method : object.getClass().getDeclaredMethods()) {
            if (method.getName().equals(name) && java.lang.reflect.Modifier.isPublic(method.getModifiers())) {
                return method;
            }
        }
        throw new IllegalStateException("no method " + name);
    }

    static long answer(Object object, String name, List<Object> arguments) {
        return answer(object, named(object, name), arguments);
    }

    static long answer(Object object, Method method, List<Object> arguments) {
        try {
            return ((Number) method.invoke(object, arguments.toArray())).longValue();
        } catch (InvocationTargetException thrown) {
            throw new IllegalStateException(method.getName() + arguments, thrown.getCause());
        } catch (IllegalAccessException thrown) {
            throw new IllegalStateException(thrown);
        }
    }

    /** Has both answer, and counts whether the class answers as the model does. */
    static void both(Due due, String when, ValleyGuides guides, Model model, String name, List<Object> arguments) {
        due.is(when + " " + name + arguments, answer(guides, name, arguments), answer(model, name, arguments));
    }
}
