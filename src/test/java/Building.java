import java.lang.reflect.InvocationTargetException;
import java.lang.reflect.Method;
import java.util.Arrays;

/** An OpenFloors that is asked by the names of its calls. */
final class Building {
    /** What later calls answer is free, so that a test of them would test nothing. */
    private static final int MOST_CALLS = 512;

    private final OpenFloors floors = new OpenFloors();
    private int calls = 0;

    /** The answer as a text, or throws. with the exception's name. */
    String answer(String name, int... arguments) {
        calls++;
        if (calls > MOST_CALLS) {
            throw new IllegalStateException("the test makes more than " + MOST_CALLS + " calls on one object");
        }
        Object[] boxed = Arrays.stream(arguments).boxed().toArray();
        try {
            return String.valueOf(method(name, arguments.length).invoke(floors, boxed));
        } catch (InvocationTargetException e) {
            return Check.nameOfThrown(e.getCause());
        } catch (IllegalAccessException e) {
            throw new IllegalStateException(e);
        }
    }

    private static Method method(String name, int parameters) {
        for (Method method : OpenFloors.class.getMethods()) {
            if (method.getName().equals(name) && method.getParameterCount() == parameters) {
                return method;
            }
        }
        throw new IllegalStateException("there is no call " + name + " of " + parameters + " numbers");
    }
}
