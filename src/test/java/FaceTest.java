import java.io.IOException;
import java.lang.reflect.Constructor;
import java.lang.reflect.Field;
import java.lang.reflect.Method;
import java.lang.reflect.Modifier;
import java.nio.charset.StandardCharsets;
import java.nio.file.Files;
import java.nio.file.Path;
import java.util.Arrays;
import java.util.Map;
import java.util.TreeMap;
import java.util.TreeSet;
import java.util.regex.Matcher;
import java.util.regex.Pattern;
import java.util.stream.Collectors;

/** The face of the document, and that nothing else is open. */
public final class FaceTest {
    static final Path SOURCE = Path.of("src/main/java/OpenFloors.java");
    private static final Check CHECK = new Check("FaceTest");
    private static final Pattern CALL = Pattern.compile(
            "public (int|long|double|float|boolean) (\\w+)\\(([^)]*)\\)(?: throws ([^;]+))?;");

    public static void main(String[] args) throws IOException {
        theCallsAreTheDocuments();
        theConstructorIsTheDocuments();
        nothingElseIsOpen();
        CHECK.close();
    }

    /** Each call as the document prints it, and behind it the exceptions that it lists. */
    private static Map<String, TreeSet<String>> callsOfTheDocument() throws IOException {
        String text = Files.readString(Document.PATH, StandardCharsets.UTF_8);
        Matcher call = CALL.matcher(text.substring(text.indexOf("```java"), text.lastIndexOf("```")));
        Map<String, TreeSet<String>> calls = new TreeMap<>();
        while (call.find()) {
            String exceptions = call.group(4) == null ? "" : call.group(4);
            calls.put(call.group(1) + " " + call.group(2) + "(" + call.group(3).replaceAll("int \\w+", "int") + ")",
                    new TreeSet<>(Arrays.asList(exceptions.split(", "))));
        }
        return calls;
    }

    private static void theCallsAreTheDocuments() throws IOException {
        Map<String, TreeSet<String>> due = callsOfTheDocument();
        CHECK.due("the calls of the document", due.size(), 30);
        TreeSet<String> calls = new TreeSet<>();
        for (Method method : OpenFloors.class.getDeclaredMethods()) {
            if (Modifier.isPublic(method.getModifiers())) {
                String call = method.getReturnType().getName() + " " + method.getName() + "("
                        + names(method.getParameterTypes()) + ")";
                calls.add(call);
                CHECK.due("not static: " + call, Modifier.isStatic(method.getModifiers()), false);
                checkExceptions(method, due.getOrDefault(call, new TreeSet<>()));
            }
        }
        CHECK.due("the calls of the class", calls, new TreeSet<>(due.keySet()));
    }

    /** What is declared is listed; to declare such an exception is not needed in Java. */
    private static void checkExceptions(Method method, TreeSet<String> listed) {
        for (Class<?> exception : method.getExceptionTypes()) {
            String name = exception.getSimpleName();
            CHECK.due(method.getName() + " may throw " + name, listed.contains(name), true);
        }
    }

    private static String names(Class<?>[] types) {
        return Arrays.stream(types).map(Class::getSimpleName).collect(Collectors.joining(", "));
    }

    private static void theConstructorIsTheDocuments() {
        CHECK.due("final", Modifier.isFinal(OpenFloors.class.getModifiers()), true);
        CHECK.due("public", Modifier.isPublic(OpenFloors.class.getModifiers()), true);
        CHECK.due("public constructors", OpenFloors.class.getConstructors().length, 1);
        CHECK.due("their parameters", names(OpenFloors.class.getConstructors()[0].getParameterTypes()), "");
    }

    private static void nothingElseIsOpen() {
        TreeSet<String> face = new TreeSet<>();
        for (Method method : OpenFloors.class.getMethods()) {
            face.add(method.getName());
        }
        for (Method method : OpenFloors.class.getDeclaredMethods()) {
            boolean isHidden = Modifier.isPrivate(method.getModifiers()) && !face.contains(method.getName());
            CHECK.due("public or hidden: " + method, Modifier.isPublic(method.getModifiers()) || isHidden, true);
        }
        for (Constructor<?> constructor : OpenFloors.class.getDeclaredConstructors()) {
            int modifiers = constructor.getModifiers();
            boolean isClosed = Modifier.isPublic(modifiers) || Modifier.isPrivate(modifiers);
            CHECK.due("public or private: " + constructor, isClosed, true);
        }
        for (Field field : OpenFloors.class.getDeclaredFields()) {
            CHECK.due("private: " + field, Modifier.isPrivate(field.getModifiers()), true);
        }
        for (Class<?> inside : OpenFloors.class.getDeclaredClasses()) {
            boolean isOpen = (inside.getModifiers() & (Modifier.PUBLIC | Modifier.PROTECTED)) != 0;
            CHECK.due("not open: " + inside, isOpen, false);
        }
    }
}
