/** What the tests share: comparing answers, and an end for a program that has none. */
final class Check {
    static final int INVALID = BoilerPapers.INVALID_ARGUMENT;
    static final int IMPOSSIBLE = BoilerPapers.NOT_POSSIBLE;
    static final int LIMIT = BoilerPapers.LIMIT_REACHED;
    static final int NONE = BoilerPapers.NOT_FOUND;

    private static final int MOST_TOLD = 40;
    private static final long LONGEST_RUN = 300_000;

    private static int wrong = 0;
    private static int checked = 0;

    static {
        Thread watch = new Thread(Check::endLateRun);
        watch.setDaemon(true);
        watch.start();
    }

    private Check() {
    }

    private static void endLateRun() {
        try {
            Thread.sleep(LONGEST_RUN);
        } catch (InterruptedException e) {
            return;
        }
        System.out.println("a call does not end");
        Runtime.getRuntime().halt(1);
    }

    static boolean isError(int answer) {
        return answer == INVALID || answer == IMPOSSIBLE || answer == LIMIT || answer == NONE;
    }

    static void due(String call, long got, long want) {
        checked++;
        if (got != want) {
            tell(call + " answered " + got + ", due is " + want);
        }
    }

    static void same(String what, String got, String want) {
        checked++;
        if (!got.equals(want)) {
            tell(what + ":\n  is     " + got + "\n  due is " + want);
        }
    }

    private static void tell(String fault) {
        wrong++;
        if (wrong <= MOST_TOLD) {
            System.out.println(fault);
        }
    }

    static boolean allDue() {
        return wrong == 0;
    }

    static void finish() {
        System.out.println(checked + " answers, " + wrong + " not as due");
        if (wrong != 0) {
            System.exit(1);
        }
    }
}
