import java.util.List;

/**
 * What a call leaves behind, seen on twins: two new objects on which the same calls are made, one of them without the
 * call that is looked at. So no object is asked more often than the document allows.
 *
 * A call with an error, and a question, leave nothing; type and clearText leave state and history as they are; a
 * change records all before it but the text, and drops the oldest of 5 states; undo leaves the text.
 */
final class Traces {
    static final int MOST_CALLS = 512;
    private static final int MOST_STATES = 4;

    private Traces() {
    }

    static void look(String name, List<Call> before, Call call, boolean isError) {
        if (before.size() + 2 + MOST_STATES + View.MOST_CALLS > MOST_CALLS) {
            throw new IllegalArgumentException(name + " comes too late to be looked at");
        }
        if (!isError && call.isChange()) {
            leavesOneState(name, before, call);
        } else if (!isError && call.isUndo()) {
            leavesTheText(name, before, call);
        } else {
            leavesStateAndHistory(name, before, call);
            if (isError || !call.isOfTheText()) {
                leavesTheText(name, before, call);
                leavesWhatPlayDoes(name, before, call);
            }
        }
    }

    private static BoilerPapers after(List<Call> calls) {
        BoilerPapers x = new BoilerPapers();
        for (Call call : calls) {
            call.on(x);
        }
        return x;
    }

    private static BoilerPapers after(List<Call> calls, Call last) {
        BoilerPapers x = after(calls);
        last.on(x);
        return x;
    }

    private static void leavesStateAndHistory(String name, List<Call> before, Call call) {
        for (int undos = 0; undos <= MOST_STATES; undos++) {
            BoilerPapers without = after(before);
            BoilerPapers with = after(before, call);
            for (int i = 1; i <= undos; i++) {
                Check.due(name + ", undo " + i + " behind it", with.undo(), without.undo());
            }
            String when = name + ", what it left, seen behind " + undos + " undos";
            Check.due(when + ", states", with.count(13), without.count(13));
            Check.same(when, View.of(with), View.of(without));
        }
    }

    private static void leavesTheText(String name, List<Call> before, Call call) {
        BoilerPapers without = after(before);
        BoilerPapers with = after(before, call);
        Check.due(name + ", length of the text behind it", with.count(14), without.count(14));
        if (!call.isUndo()) {
            Check.same(name + ", the text behind it", View.ofText(with), View.ofText(without));
        }
    }

    private static void leavesWhatPlayDoes(String name, List<Call> before, Call call) {
        BoilerPapers without = after(before);
        if (without.count(14) == 0) {
            return;
        }
        BoilerPapers with = after(before, call);
        Check.due(name + ", play behind it", with.play(), without.play());
        Check.same(name + ", what play did behind it", View.of(with), View.of(without));
    }

    private static void leavesOneState(String name, List<Call> before, Call call) {
        int states = after(before).count(13);
        int due = Math.min(states + 1, MOST_STATES);
        BoilerPapers changed = after(before, call);
        Check.due(name + ", states behind it", changed.count(13), due);
        Check.due(name + ", length of the text behind it", changed.count(14), after(before).count(14));
        for (int undos = 0; undos < due; undos++) {
            BoilerPapers without = after(before);
            BoilerPapers with = after(before, call);
            Check.due(name + ", its undo", with.undo(), due - 1);
            for (int i = 1; i <= undos; i++) {
                without.undo();
                Check.due(name + ", undo " + i + " behind its own", with.undo(), due - 1 - i);
            }
            String when = name + ", undone, seen behind " + undos + " undos more";
            Check.same(when, View.of(with), View.of(without));
            if (undos == due - 1) {
                Check.due(when + ", one more", with.undo(), Check.IMPOSSIBLE);
            }
            Check.same(when + ", the text", View.ofText(with), View.ofText(without));
        }
    }
}
