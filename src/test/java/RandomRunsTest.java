import java.lang.reflect.InvocationTargetException;
import java.lang.reflect.Method;
import java.lang.reflect.Modifier;
import java.util.ArrayList;
import java.util.Arrays;
import java.util.Comparator;
import java.util.List;
import java.util.Map;
import java.util.SplittableRandom;

/** Runs of 512 calls each, always the same ones, with every answer compared to the model's. */
public final class RandomRunsTest {
    private static final Check CHECK = new Check("RandomRunsTest");
    private static final int RUNS = 1500;
    private static final int CALLS = 512;
    private static final int[] ODD = {Integer.MIN_VALUE, -2, -1, 100, Integer.MAX_VALUE};
    /** How often a call is made; the others are made once in a while. */
    private static final Map<String, Integer> WEIGHTS = Map.of("book", 60, "comeIn", 30, "nextDay", 9, "pass", 8,
            "leave", 8, "setCost", 6, "cancel", 6, "addFloor", 5, "addPerson", 8, "plan", 6);

    private final SplittableRandom random;
    private final OpenFloors building = new OpenFloors();
    private final Model model = new Model();
    private final StringBuilder log = new StringBuilder();
    private final int floors;
    private final int costStep;

    private RandomRunsTest(int run) {
        random = new SplittableRandom(run);
        floors = 1 + random.nextInt(7);
        // Multiples of 3 make many sets of the same loss.
        costStep = random.nextInt(3) == 0 ? 1 : 3;
    }

    public static void main(String[] args) {
        List<Method> calls = weightedCalls();
        for (int run = 0; run < RUNS; run++) {
            new RandomRunsTest(run).run(run, calls);
        }
        CHECK.close();
    }

    private static List<Method> weightedCalls() {
        List<Method> calls = new ArrayList<>();
        Method[] all = OpenFloors.class.getDeclaredMethods();
        Arrays.sort(all, Comparator.comparing(Method::getName));
        for (Method method : all) {
            int times = Modifier.isPublic(method.getModifiers()) ? WEIGHTS.getOrDefault(method.getName(), 3) : 0;
            for (int i = 0; i < times; i++) {
                calls.add(method);
            }
        }
        return calls;
    }

    private void run(int run, List<Method> calls) {
        for (int i = 0; i < CALLS; i++) {
            Method call = calls.get(random.nextInt(calls.size()));
            Object[] arguments = argumentsFor(call);
            Object got = answer(call, building, arguments);
            Object want = answer(counterpart(call), model, arguments);
            log.append(call.getName()).append(Arrays.toString(arguments)).append(" = ").append(got).append("; ");
            if (!got.equals(want)) {
                CHECK.due("run " + run + ": " + log, got, want);
                return;
            }
        }
        CHECK.due("run " + run, "as the model", "as the model");
    }

    private static Method counterpart(Method call) {
        try {
            Method method = Model.class.getDeclaredMethod(call.getName(), call.getParameterTypes());
            if (method.getReturnType() != call.getReturnType()) {
                throw new IllegalStateException("another type: " + call);
            }
            return method;
        } catch (NoSuchMethodException e) {
            throw new IllegalStateException(e);
        }
    }

    private static Object answer(Method call, Object target, Object[] arguments) {
        try {
            return call.invoke(target, arguments);
        } catch (InvocationTargetException e) {
            Throwable thrown = e.getCause();
            return target instanceof Model ? "throws." + thrown.getClass().getSimpleName() : Check.nameOfThrown(thrown);
        } catch (IllegalAccessException e) {
            throw new IllegalStateException(e);
        }
    }

    private Object[] argumentsFor(Method call) {
        switch (call.getName()) {
            case "addFloor":
                return new Object[] {odd(1 + random.nextInt(random.nextInt(4) == 0 ? 13 : 4)), cost()};
            case "setCost":
                return new Object[] {floor(), cost()};
            case "addPerson":
                return new Object[] {odd(random.nextInt(random.nextInt(10) == 0 ? 5 : 4))};
            case "book":
                return new Object[] {person(), floor()};
            case "seated":
                return new Object[] {odd(random.nextInt(5)), floor()};
            case "lossOf":
                return new Object[] {odd(random.nextInt(random.nextBoolean() ? 66 : 1 << Math.min(floors, 6)))};
            case "bookingAt":
                return new Object[] {odd(random.nextInt(13))};
            case "pass":
                return new Object[] {odd(random.nextInt(random.nextInt(3) == 0 ? 27 : 6))};
            case "warmth":
            case "air":
            case "isOpen":
                return new Object[] {floor()};
            default:
                return call.getParameterCount() == 0 ? new Object[0] : new Object[] {person()};
        }
    }

    private int odd(int usual) {
        return random.nextInt(40) == 0 ? ODD[random.nextInt(ODD.length)] : usual;
    }

    private int cost() {
        return odd(Math.min(99, costStep * random.nextInt(random.nextInt(5) == 0 ? 100 : 8)));
    }

    private int person() {
        return odd(random.nextInt(13));
    }

    private int floor() {
        return odd(random.nextInt(floors));
    }
}
