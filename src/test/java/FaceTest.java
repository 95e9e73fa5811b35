import java.io.IOException;
import java.lang.reflect.Field;
import java.lang.reflect.Method;
import java.lang.reflect.Modifier;
import java.nio.charset.StandardCharsets;
import java.nio.file.Files;
import java.nio.file.Path;
import java.util.TreeSet;
import java.util.regex.Matcher;
import java.util.regex.Pattern;

/** The face of the document, and that nothing else is open. */
public final class FaceTest {
    private static final Check CHECK = new Check("FaceTest");
    static final Path SOURCE = Path.of("src/main/java/OpenFloors.java");

    public static void main(String[] args) throws IOException {
        theFaceIsTheDocuments();
        nothingElseIsOpen();
        CHECK.close();
    }

    private static void theFaceIsTheDocuments() throws IOException {
        TreeSet<String> wanted = new TreeSet<>();
        String text = Files.readString(Document.PATH, StandardCharsets.UTF_8);
        String face = text.substring(text.indexOf("```java"), text.lastIndexOf("```"));
        Matcher line = Pattern.compile("public (int|long|double|float|boolean) (\\w+)\\(([^)]*)\\)( throws [^;]+)?;")
                .matcher(face);
        while (line.find()) {
            String parameters = line.group(3).replaceAll("int \\w+", "int");
            String exceptions = line.group(4) == null ? "" : line.group(4);
            wanted.add(line.group(1) + " " + line.group(2) + "(" + parameters + ")" + exceptions);
        }
        CHECK.due("the calls of the document", wanted.size(), 30);
        CHECK.due("the calls of the class", publicCalls(), wanted);
    }

    private static TreeSet<String> publicCalls() {
        TreeSet<String> calls = new TreeSet<>();
        for (Method method : OpenFloors.class.getDeclaredMethods()) {
            if (Modifier.isPublic(method.getModifiers())) {
                calls.add(method.getReturnType().getName() + " " + method.getName() + "("
                        + names(method.getParameterTypes()) + ")"
                        + (method.getExceptionTypes().length == 0 ? "" : " throws " + names(method.getExceptionTypes())));
            }
        }
        return calls;
    }

    private static String names(Class<?>[] types) {
        StringBuilder names = new StringBuilder();
        for (Class<?> type : types) {
            names.append(names.length() == 0 ? "" : ", ").append(type.getSimpleName());
        }
        return names.toString();
    }

    private static void nothingElseIsOpen() {
        CHECK.due("final", Modifier.isFinal(OpenFloors.class.getModifiers()), true);
        CHECK.due("one constructor", OpenFloors.class.getDeclaredConstructors().length, 1);
        TreeSet<String> publicNames = new TreeSet<>();
        for (Method method : OpenFloors.class.getDeclaredMethods()) {
            if (Modifier.isPublic(method.getModifiers())) {
                publicNames.add(method.getName());
            }
        }
        for (Method method : OpenFloors.class.getDeclaredMethods()) {
            boolean open = Modifier.isPublic(method.getModifiers());
            boolean hidden = Modifier.isPrivate(method.getModifiers()) && !publicNames.contains(method.getName());
            CHECK.due("public or hidden: " + method.getName(), open || hidden, true);
        }
        for (Field field : OpenFloors.class.getDeclaredFields()) {
            int modifiers = field.getModifiers();
            CHECK.due("private: " + field.getName(), Modifier.isPrivate(modifiers), true);
            CHECK.due("no static state: " + field.getName(),
                    !Modifier.isStatic(modifiers) || Modifier.isFinal(modifiers), true);
        }
        for (Class<?> inside : OpenFloors.class.getDeclaredClasses()) {
            CHECK.due("static: " + inside.getName(), Modifier.isStatic(inside.getModifiers()), true);
        }
    }
}
