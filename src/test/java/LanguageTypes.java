import java.util.regex.Pattern;
import javax.lang.model.type.TypeMirror;

/** The types that rule 3 of ../shared/LANGUAGE.md lets be, and those that rule 5 lets a static field have. */
final class LanguageTypes {
    private static final String NUMBER = "(int|long|short|byte|char|boolean|double|float)";
    // A class inside the class, or a letter that stands for a type.
    private static final String OWN = "(OpenFloors[\\w.]*(<.*>)?|[A-Z]\\w?)";
    private static final String HELD = "<(" + OWN + "|java\\.lang\\.Integer)>";
    private static final Pattern ALLOWED = Pattern.compile("void|" + NUMBER + "(\\[]){0,2}|" + OWN + "(\\[])?"
            + "|java\\.lang\\.(String|StringBuilder|Integer|(Iterable|Comparable)" + HELD + ")"
            + "|java\\.util\\.(ArrayList|List|Iterator)" + HELD);
    private static final Pattern ALLOWED_STATIC = Pattern.compile("int|long|boolean|char|java\\.lang\\.String"
            + "|(int|long|char|byte)\\[]|OpenFloors[\\w.]*(\\[])?");

    private LanguageTypes() {
    }

    static boolean isAllowed(TypeMirror type) {
        return ALLOWED.matcher(type.toString()).matches();
    }

    static boolean isAllowedStatic(TypeMirror type) {
        return ALLOWED_STATIC.matcher(type.toString()).matches();
    }

    static boolean isText(TypeMirror type) {
        return "java.lang.String".equals(String.valueOf(type));
    }

    /** Rule 6 forbids == between two of them. */
    static boolean isTextOrInteger(TypeMirror type) {
        return isText(type) || "java.lang.Integer".equals(String.valueOf(type));
    }
}
