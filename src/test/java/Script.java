import java.util.ArrayList;
import java.util.List;
import java.util.regex.Matcher;
import java.util.regex.Pattern;

/**
 * Runs of calls on a new object, written as a text: calls with the answers that are due, in lines or parted by " | ".
 *
 * <pre>
 * boiler(20) = 0 | press(0, 21) = INVALID      the answer, or the name of an error
 * boilerOf(0, 0..3) = 20 20 0 0                a range: an answer each, or one for all; "-" is NOT_FOUND
 * 5 x pass(60)                                 the same call again; without an answer: any that is no error
 * text "b9;w1;"                                the text is emptied and this is typed
 * </pre>
 *
 * Beside the answers, it is looked at behind each call whether the call changed only what it may: see Traces.
 */
final class Script {
    private static final Pattern CALL = Pattern.compile("(?:([0-9]+) x )?(\\w+)\\(([^)]*)\\)(?: = (.+))?");
    private static final Pattern TEXT = Pattern.compile("text \"(.*)\"");

    private final String title;
    private final BoilerPapers house = new BoilerPapers();
    private final List<Call> made = new ArrayList<>();

    private Script(String title) {
        this.title = title;
    }

    /** The title is the sentence of the document that the run holds the program to. */
    static void run(String title, String... texts) {
        Script script = new Script(title);
        for (String line : String.join("\n", texts).split("\n| \\| ")) {
            if (!line.isBlank()) {
                script.entry(line.trim());
            }
        }
    }

    private void entry(String line) {
        Matcher text = TEXT.matcher(line);
        Matcher call = CALL.matcher(line);
        if (text.matches()) {
            write(text.group(1));
        } else if (call.matches()) {
            String[] due = call.group(4) == null ? new String[] {""} : call.group(4).trim().split(" +");
            int times = call.group(1) == null ? 1 : Integer.parseInt(call.group(1));
            calls(times, call.group(2), call.group(3), due);
        } else {
            throw new IllegalArgumentException(line);
        }
    }

    private void write(String text) {
        make(new Call("clearText"), "", true);
        for (int i = 0; i < text.length(); i++) {
            make(new Call("type", text.charAt(i)), String.valueOf(i + 1), i == text.length() - 1);
        }
    }

    private void calls(int times, String name, String arguments, String[] due) {
        String[] parts = arguments.isBlank() ? new String[0] : arguments.split(", *");
        int from = 0;
        int to = 0;
        int ranged = -1;
        for (int i = 0; i < parts.length; i++) {
            int dots = parts[i].indexOf("..");
            if (dots > 0) {
                ranged = i;
                from = number(parts[i].substring(0, dots));
                to = number(parts[i].substring(dots + 2));
            }
        }
        if (due.length != 1 && due.length != to - from + 1) {
            throw new IllegalArgumentException(title + ": " + name + " has " + due.length + " answers");
        }
        for (int value = from; value <= to; value++) {
            int[] numbers = new int[parts.length];
            for (int i = 0; i < parts.length; i++) {
                numbers[i] = i == ranged ? value : number(parts[i]);
            }
            for (int i = 1; i <= times; i++) {
                make(new Call(name, numbers), due.length == 1 ? due[0] : due[value - from], i == times);
            }
        }
    }

    private void make(Call call, String due, boolean isLookedAt) {
        if (made.size() >= Traces.MOST_CALLS) {
            throw new IllegalArgumentException(title + ": more calls than an object is used for");
        }
        int answer = call.on(house);
        String name = "[" + title + "] call " + made.size() + ", " + call;
        if (due.isEmpty()) {
            Check.due(name + ", an error,", Check.isError(answer) ? answer : 0, 0);
        } else {
            Check.due(name, answer, number(due));
        }
        if (isLookedAt) {
            Traces.look(name, made, call, Check.isError(answer));
        }
        made.add(call);
    }

    private static int number(String word) {
        switch (word) {
            case "INVALID": return Check.INVALID;
            case "NOT_POSSIBLE": return Check.IMPOSSIBLE;
            case "LIMIT": return Check.LIMIT;
            case "NOT_FOUND": case "-": return Check.NONE;
            case "MIN": return Integer.MIN_VALUE;
            case "MAX": return Integer.MAX_VALUE;
            default: return Integer.parseInt(word);
        }
    }
}
