import java.util.Objects;

/** Counts what is as due, and prints what is not. */
final class Check {
    private final String title;
    private int passed = 0;
    private int failed = 0;

    Check(String title) {
        this.title = title;
    }

    void due(String call, Object got, Object want) {
        if (Objects.equals(got, want)) {
            passed++;
        } else {
            failed++;
            System.out.println(title + ": " + call + " answered " + got + ", due is " + want);
        }
    }

    /** The call throws just this exception, and nothing has changed behind it. */
    void refused(String call, OpenFloors building, Class<? extends RuntimeException> want, Runnable body) {
        String before = Snapshot.of(building);
        Class<?> got = null;
        boolean own = false;
        try {
            body.run();
        } catch (RuntimeException e) {
            got = e.getClass();
            own = isThrownByTheClass(e);
        }
        due(call + " throws", got, want);
        due(call + " throws by the class's own word", own, true);
        due("the state behind " + call, Snapshot.of(building), before);
    }

    /** Neither the library nor a division of the machine has thrown it: those would look alike to a caller. */
    static boolean isThrownByTheClass(Throwable e) {
        StackTraceElement[] calls = e.getStackTrace();
        boolean inTheClass = calls.length > 0 && calls[0].getClassName().equals("OpenFloors");
        return inTheClass && !"/ by zero".equals(e.getMessage());
    }

    void close() {
        System.out.println(title + ": " + passed + " passed, " + failed + " failed");
        if (failed != 0) {
            System.exit(1);
        }
    }
}
