/** All that the questions tell of an object. */
final class View {
    private View() {
    }

    /** The state, without the history and the text. */
    static String of(BoilerPapers x) {
        StringBuilder out = new StringBuilder("counts ");
        for (int what = 0; what <= 23; what++) {
            if (what != 13 && what != 14) {
                out.append(x.count(what)).append(' ');
            }
        }
        out.append("\n    accounts ");
        for (int whose = 0; whose < 4; whose++) {
            out.append(x.account(whose)).append(' ');
        }
        for (int b = 0; b < x.count(0); b++) {
            out.append("\n    boiler ").append(b).append(": ");
            for (int what = 0; what < 10; what++) {
                out.append(x.boilerOf(b, what)).append(' ');
            }
            for (int what = 0; what < 3; what++) {
                out.append(x.paperOf(b, what)).append(' ');
            }
        }
        for (int i = 0; i < x.count(1); i++) {
            out.append("\n    inspector ").append(i).append(": ");
            for (int what = 0; what < 5; what++) {
                out.append(x.inspectorOf(i, what)).append(' ');
            }
        }
        return out.toString();
    }

    /** What is told of the text. */
    static String ofText(BoilerPapers x) {
        return x.count(14) + " " + x.fault(0) + " " + x.fault(1) + " " + x.fault(2);
    }
}
