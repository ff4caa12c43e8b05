/** What the tests share: comparing answers, and seeing all of an object at once. */
final class Check {
    static final int INVALID = BoilerPapers.INVALID_ARGUMENT;
    static final int IMPOSSIBLE = BoilerPapers.NOT_POSSIBLE;
    static final int LIMIT = BoilerPapers.LIMIT_REACHED;
    static final int NONE = BoilerPapers.NOT_FOUND;

    private static int wrong = 0;
    private static int checked = 0;

    private Check() {
    }

    static void due(String call, long got, long want) {
        checked++;
        if (got != want) {
            wrong++;
            System.out.println(call + " answered " + got + ", due is " + want);
        }
    }

    static void same(String what, String got, String want) {
        checked++;
        if (!got.equals(want)) {
            wrong++;
            System.out.println(what + ":\n  is     " + got + "\n  due is " + want);
        }
    }

    static boolean allDue() {
        return wrong == 0;
    }

    static void finish() {
        System.out.println(checked + " answers, " + wrong + " not as due");
        if (wrong != 0) {
            System.exit(1);
        }
    }

    static void write(BoilerPapers x, String text) {
        x.clearText();
        for (int i = 0; i < text.length(); i++) {
            x.type(text.charAt(i));
        }
    }

    /** Every answer that tells of the state and is not of the text. */
    static String all(BoilerPapers x) {
        StringBuilder out = new StringBuilder();
        for (int what = 0; what <= 23; what++) {
            if (what != 14) {
                out.append(x.count(what)).append(' ');
            }
        }
        for (int whose = 0; whose < 4; whose++) {
            out.append(x.account(whose)).append(' ');
        }
        for (int b = 0; b < x.count(0); b++) {
            out.append("\n    boiler ").append(b).append(": ");
            for (int what = 0; what < 10; what++) {
                out.append(x.boilerOf(b, what)).append(' ');
            }
            for (int what = 0; what < 3; what++) {
                out.append(x.paperOf(b, what)).append(' ');
            }
        }
        for (int i = 0; i < x.count(1); i++) {
            out.append("\n    inspector ").append(i).append(": ");
            for (int what = 0; what < 5; what++) {
                out.append(x.inspectorOf(i, what)).append(' ');
            }
        }
        return out.toString();
    }

    /** A call that is to answer an error and to change nothing. */
    interface Call {
        int on(BoilerPapers x);
    }

    static void refused(String call, BoilerPapers x, int error, Call made) {
        String before = all(x);
        due(call, made.on(x), error);
        same("what " + call + " left", all(x), before);
    }
}
