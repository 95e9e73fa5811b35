import java.util.ArrayList;
import java.util.List;

/** Calls on a new object, each with the answer that is due. */
final class Run {
    private final String title;
    private final List<Call> calls = new ArrayList<>();

    Run(String title) {
        this.title = title;
    }

    void add(List<Call> more) {
        calls.addAll(more);
    }

    List<Call> calls() {
        return calls;
    }

    /** Ends with the first wrong answer: those behind it would follow from it. */
    void play(Check check) {
        Building building = new Building();
        List<Call> accepted = new ArrayList<>();
        for (int i = 0; i < calls.size(); i++) {
            Call call = calls.get(i);
            String answer = building.answer(call.name, call.arguments);
            if (!call.isAsDue(answer)) {
                check.due("'" + title + "': " + calls.subList(0, i + 1), answer, call.due());
                return;
            }
            if (call.isRefused()) {
                changesNothing(check, accepted, call);
            } else {
                accepted.add(call);
            }
        }
        check.due(title, "as due", "as due");
    }

    /** Compares the building with one that was never asked what is refused. */
    private void changesNothing(Check check, List<Call> accepted, Call refused) {
        Building untouched = after(accepted);
        Building touched = after(accepted);
        touched.answer(refused.name, refused.arguments);
        check.due("'" + title + "': what stands behind " + accepted + " and " + refused,
                Snapshot.ofThisDayAndTheNext(touched), Snapshot.ofThisDayAndTheNext(untouched));
    }

    private static Building after(List<Call> calls) {
        Building building = new Building();
        for (Call call : calls) {
            building.answer(call.name, call.arguments);
        }
        return building;
    }
}
