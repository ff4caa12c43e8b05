/** Beginnings of runs, as texts for Script. */
final class Setups {
    static final String HOUSE = "boiler(40) = 0 | inspector(0, 3) = 0 | inspector(1, 3) = 1\n";

    private Setups() {
    }

    /**
     * HOUSE, its boiler cold for one week with this wear (0 to 200), a working pressure of 1 and the paper 0, 40, 52;
     * the week is that of weekOf, and 4 states are in the history.
     */
    static String worn(int wear) {
        StringBuilder lines = new StringBuilder(HOUSE);
        lines.append("inspect(0, 0) = 40\nfire(0) = 53\n");
        if (wear >= 5) {
            lines.append("pass(").append(wear / 5).append(") = 0\n");
        }
        lines.append("press(0, 1) = 40\n");
        if (wear % 5 > 0) {
            lines.append("pass(").append(wear % 5).append(") = 0\n");
        }
        lines.append("out(0) = ").append(wear).append("\npass(1) = 0\n");
        return lines.toString();
    }

    static int weekOf(int wear) {
        return wear / 5 + wear % 5 + 1;
    }

    /** HOUSE in week 9999. */
    static String lastWeek() {
        return HOUSE + "166 x pass(60) = 0 | pass(39) = 0\n";
    }
}
