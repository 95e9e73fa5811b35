import java.io.IOException;
import java.nio.charset.StandardCharsets;
import java.nio.file.Files;
import java.nio.file.Path;
import java.util.List;
import java.util.TreeSet;
import java.util.regex.Matcher;
import java.util.regex.Pattern;
import java.util.stream.Collectors;
import java.util.stream.Stream;

/** The runs below src/test/runs: to each sentence of the document that names an edge the calls on both sides of it. */
public final class RunsTest {
    private static final Check CHECK = new Check("RunsTest");
    private static final Path RUNS = Path.of("src/test/runs");
    private static final Pattern REFUSAL = Pattern.compile("\\d+: Throws `(\\w+)` .*");

    private final Document document;
    private final TreeSet<String> tested = new TreeSet<>();

    private RunsTest(Document document) {
        this.document = document;
    }

    public static void main(String[] args) throws IOException {
        RunsTest test = new RunsTest(Document.read());
        for (Path file : files()) {
            for (Sentence sentence : Sentence.ofLines(Files.readAllLines(file, StandardCharsets.UTF_8))) {
                test.check(sentence);
            }
        }
        test.checkThatNoneIsMissing();
        CHECK.close();
    }

    private static List<Path> files() throws IOException {
        try (Stream<Path> files = Files.list(RUNS)) {
            return files.filter(file -> file.toString().endsWith(".txt")).sorted().collect(Collectors.toList());
        }
    }

    private void checkThatNoneIsMissing() {
        for (String owed : document.owed()) {
            CHECK.due("has runs: " + owed, tested.contains(owed), true);
        }
        for (String promise : document.promises()) {
            boolean found = tested.stream().anyMatch(told -> Document.placeOf(told).equals(promise));
            CHECK.due("has runs: promise " + promise, found, true);
        }
    }

    private void check(Sentence sentence) {
        CHECK.due("stands in the document: " + sentence.told, document.has(sentence.told), true);
        CHECK.due("stands here once: " + sentence.told, tested.add(sentence.told), true);
        CHECK.due("has a run: " + sentence.told, !sentence.runs.isEmpty(), true);
        checkBothSides(sentence);
        for (Run run : sentence.runs) {
            run.play(CHECK);
        }
    }

    /** Of a refusal: the runs hold a call that is refused so, and one that is not. */
    private void checkBothSides(Sentence sentence) {
        Matcher refusal = REFUSAL.matcher(sentence.told);
        if (!refusal.matches()) {
            return;
        }
        List<Call> calls = sentence.callsOf(document.titleOver(sentence.told));
        boolean refused = calls.stream().anyMatch(call -> call.isRefusedWith(refusal.group(1)));
        boolean answered = calls.stream().anyMatch(call -> !call.isRefused());
        CHECK.due("has a refused call: " + sentence.told, refused, true);
        CHECK.due("has a call that is not refused: " + sentence.told, answered, true);
    }
}
