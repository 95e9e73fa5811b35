import java.io.IOException;
import java.nio.charset.StandardCharsets;
import java.nio.file.Files;
import java.nio.file.Path;
import java.util.ArrayList;
import java.util.LinkedHashMap;
import java.util.List;
import java.util.Map;
import java.util.Set;
import java.util.TreeSet;
import java.util.regex.Matcher;
import java.util.regex.Pattern;

/** The document's sentences, each behind the place where it stands: "Terms: .." or, of promise 7, "7: ..". */
final class Document {
    static final Path PATH = Path.of("../shared/DOC.md");
    private static final Pattern PROMISE = Pattern.compile("(?m)^## Promise (\\d+): (.+)$");
    private static final Pattern TITLE = Pattern.compile("(\\S+ ?){1,3}");

    private final TreeSet<String> all = new TreeSet<>();
    /** Those that name an edge, a range or a refusal: each must have a test of its own. */
    private final List<String> owed = new ArrayList<>();
    private final Map<String, String> titles = new LinkedHashMap<>();

    static Document read() throws IOException {
        Document document = new Document();
        String text = Files.readString(PATH, StandardCharsets.UTF_8);
        document.takeTerms(section(text, text.indexOf("## Terms")));
        Matcher promise = PROMISE.matcher(text);
        while (promise.find()) {
            document.titles.put(promise.group(1), promise.group(2));
            document.takePromise(promise.group(1), section(text, promise.start()));
        }
        return document;
    }

    /** What stands between the heading at this place and the next one. */
    private static String section(String text, int heading) {
        int from = text.indexOf('\n', heading) + 1;
        int to = text.indexOf("\n## ", from);
        return text.substring(from, to < 0 ? text.length() : to);
    }

    private void takeTerms(String section) {
        for (String paragraph : section.split("\n\n")) {
            boolean isOfTheTerms = !paragraph.isBlank() && !paragraph.startsWith("Ahead of the calls");
            for (String sentence : isOfTheTerms ? sentences(paragraph) : new String[0]) {
                // A paragraph begins with what it is about: "A new day."
                if (!TITLE.matcher(sentence).matches()) {
                    take("Terms", sentence, true);
                }
            }
        }
    }

    private void takePromise(String number, String section) {
        for (String part : section.strip().split("\n\n|\n(?=- )")) {
            // The first part begins with the call as it is declared.
            boolean isFirst = part.startsWith("`");
            String words = isFirst ? part.substring(part.indexOf("`: ") + 3) : part.replaceFirst("^- ", "");
            for (String sentence : sentences(words)) {
                take(number, sentence, sentence.startsWith("Throws ") || sentence.matches(".*\\d.*"));
            }
        }
    }

    private static String[] sentences(String paragraph) {
        return paragraph.strip().replaceAll("\\s+", " ").split("(?<=[.;]) ");
    }

    private void take(String place, String sentence, boolean isOwed) {
        String told = place + ": " + sentence.replaceFirst("[.;]$", "");
        all.add(told);
        if (isOwed) {
            owed.add(told);
        }
    }

    boolean has(String told) {
        return all.contains(told);
    }

    List<String> owed() {
        return owed;
    }

    Set<String> promises() {
        return titles.keySet();
    }

    /** The title of the promise in which the sentence stands: the name of its call. */
    String titleOver(String told) {
        return titles.get(placeOf(told));
    }

    static String placeOf(String told) {
        return told.substring(0, told.indexOf(':'));
    }
}
