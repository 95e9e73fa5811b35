import java.io.IOException;
import java.nio.charset.StandardCharsets;
import java.nio.file.Files;
import java.nio.file.Path;
import java.util.ArrayList;
import java.util.List;
import java.util.TreeSet;
import java.util.regex.Matcher;
import java.util.regex.Pattern;
import java.util.stream.Collectors;
import java.util.stream.Stream;

/** The runs below src/test/runs: to each sentence of the document that names an edge the calls on both sides of it. */
public final class RunsTest {
    private static final Check CHECK = new Check("RunsTest");
    private static final Path RUNS = Path.of("src/test/runs");
    private static final Pattern REFUSAL = Pattern.compile("\\d+: Throws `(\\w+)` .*");

    private final Document document;
    private final TreeSet<String> tested = new TreeSet<>();

    private RunsTest(Document document) {
        this.document = document;
    }

    /** A sentence and the runs that stand behind it; a run is a list of calls on a new object. */
    private static final class Sentence {
        private final String told;
        private final List<List<Call>> runs = new ArrayList<>();

        Sentence(String told) {
            this.told = told;
        }
    }

    public static void main(String[] args) throws IOException {
        RunsTest test = new RunsTest(Document.read());
        for (Path file : files()) {
            for (Sentence sentence : read(file)) {
                test.check(sentence);
            }
        }
        test.checkThatNoneIsMissing();
        CHECK.close();
    }

    private void checkThatNoneIsMissing() {
        for (String owed : document.owed()) {
            CHECK.due("has runs: " + owed, tested.contains(owed), true);
        }
        for (String promise : document.promises()) {
            boolean found = tested.stream().anyMatch(told -> Document.placeOf(told).equals(promise));
            CHECK.due("has runs: promise " + promise, found, true);
        }
    }

    private static List<Path> files() throws IOException {
        try (Stream<Path> files = Files.list(RUNS)) {
            return files.filter(file -> file.toString().endsWith(".txt")).sorted().collect(Collectors.toList());
        }
    }

    private static List<Sentence> read(Path file) throws IOException {
        List<Sentence> sentences = new ArrayList<>();
        List<Call> run = null;
        for (String line : Files.readAllLines(file, StandardCharsets.UTF_8)) {
            if (line.startsWith("> ")) {
                sentences.add(new Sentence(line.substring(2)));
                run = null;
            } else if (line.isBlank()) {
                run = null;
            } else if (!line.startsWith("#")) {
                if (run == null) {
                    run = new ArrayList<>();
                    sentences.get(sentences.size() - 1).runs.add(run);
                }
                run.addAll(Call.ofLine(line));
            }
        }
        return sentences;
    }

    private void check(Sentence sentence) {
        CHECK.due("stands in the document: " + sentence.told, document.has(sentence.told), true);
        CHECK.due("stands here once: " + sentence.told, tested.add(sentence.told), true);
        CHECK.due("has a run: " + sentence.told, !sentence.runs.isEmpty(), true);
        checkBothSides(sentence);
        for (List<Call> run : sentence.runs) {
            play(sentence.told, run);
        }
    }

    /** Of a refusal: the runs hold a call that is refused so, and one that is not. */
    private void checkBothSides(Sentence sentence) {
        Matcher refusal = REFUSAL.matcher(sentence.told);
        if (!refusal.matches()) {
            return;
        }
        List<Call> calls = sentence.runs.stream().flatMap(List::stream)
                .filter(call -> call.name.equals(document.titleOver(sentence.told))).collect(Collectors.toList());
        boolean refused = calls.stream().anyMatch(call -> call.isRefusedWith(refusal.group(1)));
        boolean answered = calls.stream().anyMatch(call -> !call.isRefused());
        CHECK.due("has a refused call: " + sentence.told, refused, true);
        CHECK.due("has a call that is not refused: " + sentence.told, answered, true);
    }

    private static void play(String title, List<Call> run) {
        Building building = new Building();
        List<Call> accepted = new ArrayList<>();
        for (int i = 0; i < run.size(); i++) {
            Call call = run.get(i);
            String answer = building.answer(call.name, call.arguments);
            if (!call.isAsDue(answer)) {
                CHECK.due("'" + title + "': " + run.subList(0, i + 1), answer, call.due());
                return;
            }
            if (call.isRefused()) {
                changesNothing(title, accepted, call);
            } else {
                accepted.add(call);
            }
        }
        CHECK.due(title, "as due", "as due");
    }

    private static void changesNothing(String title, List<Call> accepted, Call refused) {
        Building untouched = after(accepted);
        Building touched = after(accepted);
        touched.answer(refused.name, refused.arguments);
        CHECK.due("'" + title + "': what stands behind " + accepted + " and " + refused,
                Snapshot.ofThisDayAndTheNext(touched), Snapshot.ofThisDayAndTheNext(untouched));
    }

    private static Building after(List<Call> calls) {
        Building building = new Building();
        for (Call call : calls) {
            building.answer(call.name, call.arguments);
        }
        return building;
    }
}
