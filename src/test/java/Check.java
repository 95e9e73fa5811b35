import java.util.Objects;

/** Counts what is as due, and prints what is not. */
final class Check {
    private final String title;
    private int passed = 0;
    private int failed = 0;

    Check(String title) {
        this.title = title;
    }

    void due(String call, Object got, Object want) {
        if (Objects.equals(got, want)) {
            passed++;
        } else {
            failed++;
            System.out.println(title + ": " + call + " answered " + got + ", due is " + want);
        }
    }

    /** What the machine or the library throws looks alike to a caller, but is no answer of the class's own. */
    static String nameOfThrown(Throwable e) {
        StackTraceElement[] calls = e.getStackTrace();
        boolean inTheClass = calls.length > 0 && calls[0].getClassName().matches("OpenFloors(\\$.*)?");
        boolean own = inTheClass && !"/ by zero".equals(e.getMessage());
        return (own ? "throws." : "lets the machine throw ") + e.getClass().getSimpleName();
    }

    void close() {
        System.out.println(title + ": " + passed + " passed, " + failed + " failed");
        if (failed != 0) {
            System.exit(1);
        }
    }
}
