/** All that the questions tell of an object. */
final class View {
    static final int MOST_CALLS = 2 + 22 + 4 + 2 + 8 * 27 + 6 * 5 + 4;

    private View() {
    }

    /** The state, without the history and the text. */
    static String of(BoilerPapers x) {
        StringBuilder out = new StringBuilder("counts");
        for (int what = 0; what <= 23; what++) {
            if (what != 13 && what != 14) {
                out.append(' ').append(x.count(what));
            }
        }
        out.append("\n    accounts");
        for (int whose = 0; whose < 4; whose++) {
            out.append(' ').append(x.account(whose));
        }
        out.append("\n    first ").append(x.first(0)).append(' ').append(x.first(1));
        int boilers = x.count(0);
        int inspectors = x.count(1);
        for (int b = 0; b < boilers; b++) {
            addBoiler(x, b, inspectors, out);
        }
        for (int i = 0; i < inspectors; i++) {
            out.append("\n    inspector ").append(i).append(':');
            for (int what = 0; what < 5; what++) {
                out.append(' ').append(x.inspectorOf(i, what));
            }
        }
        return out.toString();
    }

    private static void addBoiler(BoilerPapers x, int b, int inspectors, StringBuilder out) {
        out.append("\n    boiler ").append(b).append(':');
        for (int what = 0; what < 10; what++) {
            out.append(' ').append(x.boilerOf(b, what));
        }
        out.append(" paper");
        for (int what = 0; what < 3; what++) {
            out.append(' ').append(x.paperOf(b, what));
        }
        out.append(" why");
        for (int i = -1; i < inspectors; i++) {
            out.append(' ').append(x.why(b, i));
        }
        out.append(" would");
        for (int what = 0; what < 4; what++) {
            out.append(' ').append(x.would(b, what / 2, what % 2));
        }
        out.append(" better ").append(x.better(b)).append(" goesOn ").append(x.goesOn(b));
        out.append(" share ").append(x.share(b));
    }

    /** What is told of the text. */
    static String ofText(BoilerPapers x) {
        return x.count(14) + " " + x.fault(0) + " " + x.fault(1) + " " + x.fault(2);
    }
}
