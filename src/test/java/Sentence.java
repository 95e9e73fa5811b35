import java.util.ArrayList;
import java.util.List;
import java.util.stream.Collectors;

/** A sentence of the document and the runs that are told behind it; README.md says in which form. */
final class Sentence {
    final String told;
    final List<Run> runs = new ArrayList<>();

    private Sentence(String told) {
        this.told = told;
    }

    static List<Sentence> ofLines(List<String> lines) {
        List<Sentence> sentences = new ArrayList<>();
        Run run = null;
        for (String line : lines) {
            if (line.startsWith("> ")) {
                sentences.add(new Sentence(line.substring(2)));
                run = null;
            } else if (line.isBlank()) {
                run = null;
            } else if (!line.startsWith("#")) {
                if (run == null) {
                    run = sentences.get(sentences.size() - 1).beginRun();
                }
                run.add(Call.ofLine(line));
            }
        }
        return sentences;
    }

    private Run beginRun() {
        Run run = new Run(told);
        runs.add(run);
        return run;
    }

    List<Call> callsOf(String name) {
        return runs.stream().flatMap(run -> run.calls().stream()).filter(call -> call.name.equals(name))
                .collect(Collectors.toList());
    }
}
