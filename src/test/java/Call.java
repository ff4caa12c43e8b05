import java.util.Arrays;
import java.util.Set;

/** A call of the public face by its name. */
final class Call {
    private static final Set<String> CHANGES = Set.of("boiler", "inspector", "press", "inspect", "fire", "out", "plan",
        "repair", "pass", "set", "play");
    private static final Set<String> OF_THE_TEXT = Set.of("type", "clearText");

    final String name;
    private final int[] arguments;

    Call(String name, int... arguments) {
        this.name = name;
        this.arguments = arguments;
    }

    boolean isChange() {
        return CHANGES.contains(name);
    }

    boolean isOfTheText() {
        return OF_THE_TEXT.contains(name);
    }

    boolean isUndo() {
        return name.equals("undo");
    }

    private int at(int place) {
        return place < arguments.length ? arguments[place] : 0;
    }

    int on(BoilerPapers x) {
        switch (name) {
            case "boiler": return x.boiler(at(0));
            case "inspector": return x.inspector(at(0), at(1));
            case "press": return x.press(at(0), at(1));
            case "inspect": return x.inspect(at(0), at(1));
            case "fire": return x.fire(at(0));
            case "out": return x.out(at(0));
            case "plan": return x.plan(at(0), at(1), at(2));
            case "repair": return x.repair(at(0));
            case "pass": return x.pass(at(0));
            case "set": return x.set(at(0), at(1));
            case "undo": return x.undo();
            case "type": return x.type(at(0));
            case "clearText": return x.clearText();
            case "fault": return x.fault(at(0));
            case "play": return x.play();
            default: return question(x);
        }
    }

    private int question(BoilerPapers x) {
        switch (name) {
            case "boilerOf": return x.boilerOf(at(0), at(1));
            case "paperOf": return x.paperOf(at(0), at(1));
            case "inspectorOf": return x.inspectorOf(at(0), at(1));
            case "why": return x.why(at(0), at(1));
            case "account": return x.account(at(0));
            case "would": return x.would(at(0), at(1), at(2));
            case "better": return x.better(at(0));
            case "first": return x.first(at(0));
            case "goesOn": return x.goesOn(at(0));
            case "share": return x.share(at(0));
            case "count": return x.count(at(0));
            default: throw new IllegalArgumentException(name);
        }
    }

    @Override
    public String toString() {
        String inside = Arrays.toString(arguments);
        return name + "(" + inside.substring(1, inside.length() - 1) + ")";
    }
}
