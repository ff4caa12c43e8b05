/** Terms: changes and errors, the constants. */
public final class TermsOfChangesTest {
    private static final String[] CALLS_WITH_A_BOILER = {"press(#, 1)", "inspect(#, 0)", "fire(#)", "out(#)",
        "plan(#, 0, 1)", "repair(#)", "boilerOf(#, 0)", "boilerOf(#, 4)", "boilerOf(#, 5)", "paperOf(#, 0)",
        "why(#, -1)", "why(#, 0)", "would(#, 0, 0)", "would(#, 1, 1)", "better(#)", "goesOn(#)", "share(#)"};
    private static final String[] CALLS_WITH_AN_INSPECTOR = {"inspect(0, #)", "inspectorOf(#, 0)", "why(0, #)"};
    private static final String[] REFUSED = {"boiler(1)", "inspector(2, 1)", "press(0, 41)", "inspect(0, 9)", "fire(9)",
        "out(9)", "plan(0, 0, 21)", "repair(9)", "pass(61)", "set(4, 0)"};

    public static void main(String[] args) {
        theChanges();
        everyOtherCallIsNoChange();
        errorsAreNoChanges();
        fourStates();
        oldestIsDropped();
        undoInTheRing();
        everythingBeforeItButTheText();
        invalidRatherThanOthers();
        notPossibleRatherThanOthers();
        noSuchBoiler();
        noSuchInspector();
        constants();
        the512thCall();
        Check.finish();
    }

    private static void theChanges() {
        Script.run("The changes are the calls of boiler, inspector, press, inspect, fire, out, plan, repair, pass, set and play",
            """
            count(13) = 0 | boiler(10) = 0 | count(13) = 1 | inspector(0, 3) = 0 | count(13) = 2
            press(0, 10) = 10 | count(13) = 3 | undo() = 2 | inspect(0, 0) = 10 | count(13) = 3 | undo() = 2
            plan(0, 0, 1) = 0 | count(13) = 3 | undo() = 2 | repair(0) = 1 | count(13) = 3 | undo() = 2
            pass(1) = 0 | count(13) = 3 | undo() = 2 | set(0, 120) = 120 | count(13) = 3 | undo() = 2
            play() = 0 | count(13) = 3 | undo() = 2 | inspect(0, 0) = 10 | fire(0) = 53 | count(13) = 4 | undo() = 3
            fire(0) = 53 | undo() = 3 | undo() = 2 | undo() = 1 | undo() = 0
            """);
        Script.run("The changes are the calls of out", """
            boiler(10) | inspector(0, 3) | inspect(0, 0) = 10 | fire(0) = 53 | undo() = 3 | undo() = 2
            inspect(0, 0) = 10
            text "f0;"
            play() = 1 | count(13) = 4 | out(0) = 0 | count(13) = 4 | undo() = 3 | boilerOf(0, 3) = 1
            out(0) = 0 | count(13) = 4
            """);
        Script.run("The changes (that leave all as it was, too)", Setups.HOUSE, """
            undo() = 2 | undo() = 1 | press(0, 40) = 40 | count(13) = 2 | set(3, 15) = 15 | count(13) = 3
            play() = 0 | count(13) = 4
            undo() = 3 | undo() = 2 | undo() = 1 | count(0) = 1 | undo() = 0 | count(0) = 0 | undo() = NOT_POSSIBLE
            """);
    }

    private static void everyOtherCallIsNoChange() {
        Script.run("The changes are the calls of .. (and no others)", Setups.HOUSE, """
            boilerOf(0, 0) = 40 | paperOf(0, 0) = NOT_FOUND | inspectorOf(0, 0) = 0 | why(0, -1) = 5 | why(0, 0) = 0
            account(0) = 0 | would(0, 0, 0) = 40 | better(0) = 0 | first(0) = NOT_FOUND | goesOn(0) = NOT_POSSIBLE
            share(0) = 1065353216 | count(0) = 1 | fault(0) = NOT_FOUND | clearText() = 0 | type(98) = 1
            fault(0) = 0
            clearText() = 1 | count(13) = 3 | undo() = 2 | count(13) = 2
            """);
    }

    private static void errorsAreNoChanges() {
        for (String call : REFUSED) {
            Script.run("A call that returns an error changes nothing", Setups.worn(20),
                "set(2, 7) = 8\n" + call + " = INVALID | count(13) = 4 | undo() = 3 | count(22) = 8 | " + call
                + " = INVALID | count(13) = 3 | undo() = 2 | undo() = 1 | undo() = 0 | " + call
                + " = INVALID | count(13) = 0 | undo() = NOT_POSSIBLE | " + call + " = INVALID");
        }
        Script.run("A call that returns an error changes nothing (with a text)", Setups.worn(20), """
            text "f0;o0;w1;b1;"
            play() = NOT_POSSIBLE | count(13) = 4 | boilerOf(0, 3) = 0 | fault(0..2) = 9 2 INVALID
            fire(1) = INVALID | out(0) = NOT_POSSIBLE | press(0, 0) = INVALID | inspect(0, 2) = INVALID
            pass(0) = INVALID
            type(31) = INVALID | type(127) = INVALID | count(14) = 12 | fault(3) = INVALID | undo() = 3
            count(14) = 12
            """);
    }

    private static void fourStates() {
        Script.run("A history of at most 4 states is kept; if there are 5 states then, the oldest one is dropped", """
            count(13) = 0 | undo() = NOT_POSSIBLE | set(2, 1) = 8 | count(13) = 1 | set(2, 2) = 1 | count(13) = 2
            set(2, 3) = 2 | count(13) = 3 | set(2, 4) = 3 | count(13) = 4
            undo() = 3 | count(22) = 3 | undo() = 2 | count(22) = 2 | undo() = 1 | count(22) = 1
            undo() = 0 | count(22) = 8 | count(13) = 0 | undo() = NOT_POSSIBLE | undo() = NOT_POSSIBLE
            count(22) = 8
            """);
    }

    private static void oldestIsDropped() {
        Script.run("if there are 5 states then, the oldest one is dropped", """
            set(2, 1) = 8 | set(2, 2) = 1 | set(2, 3) = 2 | set(2, 4) = 3 | set(2, 5) = 4 | count(13) = 4
            undo() = 3 | count(22) = 4 | undo() = 2 | count(22) = 3 | undo() = 1 | count(22) = 2
            undo() = 0 | count(22) = 1 | undo() = NOT_POSSIBLE | count(22) = 1
            """);
        Script.run("if there are 5 states then, the oldest one is dropped (with a play)", """
            boiler(10) = 0 | boiler(11) = 1 | boiler(12) = 2 | boiler(13) = 3 | play() = 0 | count(13) = 4
            undo() = 3 | count(0) = 4 | undo() = 2 | count(0) = 3 | undo() = 1 | count(0) = 2 | undo() = 0
            count(0) = 1
            undo() = NOT_POSSIBLE
            """);
    }

    private static void undoInTheRing() {
        Script.run("the oldest one is dropped (states dropped, restored and made again)", """
            set(2, 1) = 8 | set(2, 2) = 1 | set(2, 3) = 2 | set(2, 4) = 3 | set(2, 5) = 4 | set(2, 6) = 5
            set(2, 7) = 6
            undo() = 3 | undo() = 2 | count(22) = 5 | set(2, 50) = 5 | count(13) = 3 | set(2, 51) = 50
            count(13) = 4
            set(2, 52) = 51 | count(13) = 4 | undo() = 3 | count(22) = 51 | undo() = 2 | count(22) = 50 | undo() = 1
            count(22) = 5 | undo() = 0 | count(22) = 4 | undo() = NOT_POSSIBLE | set(2, 60) = 4 | undo() = 0
            count(22) = 4
            """);
    }

    private static void everythingBeforeItButTheText() {
        Script.run("each change records everything before it but the text", Setups.HOUSE, """
            text "b9;"
            play() = 1 | count(0) = 2 | count(14) = 3 | type(98) = 4 | undo() = 3 | count(0) = 1 | count(14) = 4
            fault(0..2) = 3 1 1 | clearText() = 4 | undo() = 2 | count(14) = 0 | count(1) = 1 | fault(0) = NOT_FOUND
            """);
        Script.run("each change records everything before it (of a boiler, a paper, a shutdown, accounts)",
            Setups.worn(121), """
            inspect(0, 0) = 0 | repair(0) = 13 | plan(0, 30, 2) = 31 | pass(13) = 0
            boilerOf(0, 0..9) = 40 1 30 0 0 - 0 - - 34 | account(0..3) = 16 0 195 -211
            undo() = 3 | boilerOf(0, 0..9) = 40 1 121 2 - 13 1 30 31 15 | undo() = 2 | boilerOf(0, 7..8) = NOT_FOUND
            undo() = 1 | boilerOf(0, 0..9) = 40 1 121 0 1 - 1 - - 15 | account(0..3) = 16 0 0 -16 | count(11) = 0
            undo() = 0 | boilerOf(0, 6) = 0 | paperOf(0, 0..2) = 0 40 52 | account(0..3) = 8 0 0 -8
            inspectorOf(0, 2..4) = 3 1 1 | count(8..9) = 1 1
            """);
    }

    private static void invalidRatherThanOthers() {
        String title = "INVALID_ARGUMENT is returned rather than NOT_POSSIBLE, LIMIT_REACHED, NOT_FOUND";
        Script.run(title, Setups.worn(100), """
            inspect(0, 0) = 20 | fire(0) = 33 | press(0, 21) = NOT_POSSIBLE | press(0, 40) = NOT_POSSIBLE
            press(0, 41) = INVALID | press(1, 21) = INVALID | press(0, 0) = INVALID
            inspect(0, 0) = NOT_POSSIBLE | inspect(0, 2) = INVALID | inspect(1, 0) = INVALID
            inspect(0, -1) = INVALID
            fire(0) = NOT_POSSIBLE | fire(1) = INVALID | repair(0) = NOT_POSSIBLE | repair(1) = INVALID
            plan(0, 21, 1) = NOT_POSSIBLE | plan(0, 21, 20) = NOT_POSSIBLE | plan(0, 21, 0) = INVALID
            plan(0, 21, 21) = INVALID | plan(1, 21, 1) = INVALID | plan(0, 20, 1) = INVALID
            boilerOf(0, 4) = NOT_FOUND | boilerOf(1, 4) = INVALID | boilerOf(0, 10) = INVALID
            boilerOf(1, 10) = INVALID
            """);
        Script.run(title, Setups.HOUSE, """
            out(0) = NOT_POSSIBLE | out(1) = INVALID | goesOn(0) = NOT_POSSIBLE | goesOn(1) = INVALID
            goesOn(-1) = INVALID
            paperOf(0, 0) = NOT_FOUND | paperOf(0, 3) = INVALID | paperOf(0, -1) = INVALID | paperOf(1, 0) = INVALID
            first(0) = NOT_FOUND | first(1) = NOT_FOUND | first(2) = INVALID | first(-1) = INVALID
            set(0, 0) = 120 | set(1, 0) = 90 | inspect(0, 0) = 40 | fire(0) = 53 | pass(1) = 0
            would(0, 0, 1) = NOT_FOUND | would(0, 1, 1) = NOT_FOUND | would(0, 2, 1) = INVALID
            would(0, -1, 1) = INVALID
            would(1, 0, 1) = INVALID | would(0, 0, 2) = INVALID | better(0) = NOT_FOUND | better(1) = INVALID
            fault(0) = NOT_FOUND | fault(3) = INVALID | fault(-1) = INVALID
            """);
        Script.run(title, """
            8 x boiler(10) | boiler(10) = LIMIT | boiler(1) = INVALID | boiler(41) = INVALID
            6 x inspector(0, 1) | inspector(0, 1) = LIMIT | inspector(2, 1) = INVALID | inspector(0, 4) = INVALID
            60 x type(32) | type(32) = LIMIT | type(31) = INVALID | type(127) = INVALID
            """);
        Script.run(title, Setups.lastWeek(), """
            pass(1) = LIMIT | pass(60) = LIMIT | pass(0) = INVALID | pass(61) = INVALID
            plan(0, 10000, 1) = INVALID | plan(0, 9998, 21) = INVALID
            """);
    }

    private static void notPossibleRatherThanOthers() {
        Script.run("NOT_POSSIBLE rather than LIMIT_REACHED (of a play whose order meets a limit)", """
            8 x boiler(10)
            text "b9;"
            play() = NOT_POSSIBLE | fault(2) = LIMIT | fault(0..1) = 0 2
            text "o9;"
            play() = NOT_POSSIBLE | fault(2) = INVALID
            """);
    }

    private static void missing(String setup, String call, String... numbers) {
        for (String number : numbers) {
            Script.run("If there is no boiler or inspector with a certain number, this is INVALID_ARGUMENT", setup,
                "\n" + call.replace("#", number) + " = INVALID");
        }
    }

    private static void noSuchBoiler() {
        for (String call : CALLS_WITH_A_BOILER) {
            missing("inspector(0, 3)", call, "0", "-1", "1", "7", "8", "MIN", "MAX");
            missing("boiler(10) | inspector(0, 3)", call, "-1", "1", "8", "MIN", "MAX");
            missing("7 x boiler(10) | inspector(0, 3)", call, "7", "8", "-1");
            missing("8 x boiler(10) | inspector(0, 3)", call, "8", "9", "-1", "MIN", "MAX");
            missing("8 x boiler(10) | inspector(0, 3) | undo() = 3 | undo() = 2", call, "7", "8");
        }
        Script.run("If there is no boiler with a certain number (there are the first and the last)", """
            8 x boiler(10) | inspector(0, 2) | share(0) = 1065353216 | share(7) = 1065353216 | better(0) = 0
            better(7) = 0
            would(0, 0, 0) = 10 | would(7, 1, 0) = 9 | why(0, -1) = 5 | why(7, -1) = 5 | why(7, 0) = 0
            press(0, 9) = 10 | press(7, 9) = 10 | inspect(0, 0) = 10 | inspect(7, 0) = 10 | paperOf(7, 1) = 10
            fire(0) = 53 | fire(7) = 53 | goesOn(0) = 53 | goesOn(7) = 53 | first(0) = 0 | out(0) = 0
            first(0) = 7 | out(7) = 0
            plan(0, 5, 1) = 5 | plan(7, 5, 1) = 5 | repair(0) = 1 | repair(7) = 1 | boilerOf(7, 3) = 2
            count(4) = 129
            """);
    }

    private static void noSuchInspector() {
        for (String call : CALLS_WITH_AN_INSPECTOR) {
            boolean isWhy = call.startsWith("why");
            String ahead = isWhy ? "-2" : "-1";
            missing("boiler(10)", call, "0", ahead, "1", "5", "6", "MIN", "MAX");
            missing("boiler(10) | inspector(0, 3)", call, "1", ahead, "6", "MIN", "MAX");
            missing("boiler(10) | 5 x inspector(0, 3)", call, "5", "6", ahead);
            missing("boiler(10) | 6 x inspector(0, 3)", call, "6", "7", ahead, "MIN", "MAX");
            missing("boiler(10) | 6 x inspector(0, 3) | undo() = 3 | undo() = 2", call, "4", "5");
        }
        Script.run("If there is no inspector with a certain number (there are the first and the last)", """
            boiler(10) | 6 x inspector(1, 2) | why(0, -1) = 5 | why(0, 0) = 0 | why(0, 5) = 0
            inspectorOf(0, 0) = 1
            inspect(0, 0) = 9 | inspect(0, 5) = 9 | inspectorOf(0..5, 3) = 1 0 0 0 0 1 | why(0, -1) = 6
            """);
    }

    private static void constants() {
        Check.due("INVALID_ARGUMENT", BoilerPapers.INVALID_ARGUMENT, -2000000001L);
        Check.due("NOT_POSSIBLE", BoilerPapers.NOT_POSSIBLE, -2000000002L);
        Check.due("LIMIT_REACHED", BoilerPapers.LIMIT_REACHED, -2000000003L);
        Check.due("NOT_FOUND", BoilerPapers.NOT_FOUND, -2000000004L);
        BoilerPapers x = new BoilerPapers();
        Check.due("an argument is out of its range", x.boiler(1), -2000000001L);
        Check.due("not possible in the present state", x.undo(), -2000000002L);
        Check.due("there is no such value", x.first(0), -2000000004L);
        for (int i = 0; i < 8; i++) {
            x.boiler(2);
        }
        Check.due("a fixed limit has been reached", x.boiler(2), -2000000003L);
    }

    private static void the512thCall() {
        BoilerPapers x = new BoilerPapers();
        x.set(2, 0);
        for (int i = 1; i <= 254; i++) {
            Check.due("set(2, " + i % 100 + ")", x.set(2, i % 100), (i - 1) % 100);
            Check.due("count(13)", x.count(13), Math.min(i + 1, 4));
        }
        Check.due("count(22), the 510th call", x.count(22), 54);
        Check.due("undo(), the 511th call", x.undo(), 3);
        Check.due("count(22), the 512th call", x.count(22), 53);
    }
}
