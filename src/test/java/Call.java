import java.util.ArrayList;
import java.util.Arrays;
import java.util.Collections;
import java.util.List;
import java.util.regex.Matcher;
import java.util.regex.Pattern;
import java.util.stream.Collectors;

/** A call of a run and the answer that is due; README.md says in which form it is told. */
final class Call {
    private static final Pattern LINE = Pattern.compile("(?:(\\d+) times: )?(.*)");
    private static final Pattern CALL = Pattern.compile("(?:(\\d+) x )?(\\w+)\\(([^)]*)\\)(?: = (\\S+))?");
    private static final Pattern ARGUMENT = Pattern.compile("\\{[^}]*}|[^,\\s]+");

    final String name;
    final int[] arguments;
    /** null: whatever it is, but no refusal. */
    private final String due;

    private Call(String name, int[] arguments, String due) {
        this.name = name;
        this.arguments = arguments;
        this.due = due;
    }

    static List<Call> ofLine(String line) {
        Matcher parts = LINE.matcher(line);
        List<Call> calls = new ArrayList<>();
        if (!parts.matches()) {
            throw new IllegalArgumentException("no line of calls: " + line);
        }
        for (int i = 0; i < times(parts.group(1)); i++) {
            for (String told : parts.group(2).split("; ")) {
                calls.addAll(ofOneTold(told));
            }
        }
        return calls;
    }

    /** Several calls if an argument is told as {..}, one for each number in it. */
    private static List<Call> ofOneTold(String told) {
        Matcher parts = CALL.matcher(told);
        if (!parts.matches()) {
            throw new IllegalArgumentException("no call: " + told);
        }
        List<int[]> lists = Collections.nCopies(times(parts.group(1)), new int[0]);
        Matcher argument = ARGUMENT.matcher(parts.group(3));
        while (argument.find()) {
            lists = eachWith(lists, numbers(argument.group()));
        }
        return lists.stream().map(list -> new Call(parts.group(2), list, parts.group(4))).collect(Collectors.toList());
    }

    private static int times(String told) {
        return told == null ? 1 : Integer.parseInt(told);
    }

    private static List<int[]> eachWith(List<int[]> lists, int[] numbers) {
        List<int[]> longer = new ArrayList<>();
        for (int[] list : lists) {
            for (int number : numbers) {
                int[] next = Arrays.copyOf(list, list.length + 1);
                next[list.length] = number;
                longer.add(next);
            }
        }
        return longer;
    }

    private static int[] numbers(String told) {
        return Arrays.stream(told.replaceAll("[{}\\s]", "").split(",")).mapToInt(Call::number).toArray();
    }

    private static int number(String told) {
        switch (told) {
            case "MIN":
                return Integer.MIN_VALUE;
            case "MAX":
                return Integer.MAX_VALUE;
            default:
                return Integer.parseInt(told);
        }
    }

    boolean isRefused() {
        return due != null && due.startsWith("throws.");
    }

    boolean isRefusedWith(String exception) {
        return ("throws." + exception).equals(due);
    }

    boolean isAsDue(String answer) {
        return due == null ? !answer.contains("throw") : due.equals(answer);
    }

    String due() {
        return due == null ? "no refusal" : due;
    }

    static String told(String name, int... arguments) {
        return name + Arrays.stream(arguments).mapToObj(Integer::toString).collect(Collectors.joining(", ", "(", ")"));
    }

    @Override
    public String toString() {
        return told(name, arguments);
    }
}
