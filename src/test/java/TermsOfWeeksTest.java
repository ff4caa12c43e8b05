/** Terms: shutdowns and repairs, weeks, settings. */
public final class TermsOfWeeksTest {
    public static void main(String[] args) {
        oneShutdownAtMost();
        coldCanGoToRepair();
        howLongARepairTakes();
        ownerPaysTheShop();
        wearIsAQuarter();
        nothingIsAskedFor();
        paperIsGoneWithTheRepair();
        stepsOfAWeek();
        weekBecomesOneMore();
        repairsThatAreOver();
        papersWhoseLastWeekIsPast();
        shutdownsWhoseLastWeekIsPast();
        putOutByShutdown();
        putOutWithoutPaper();
        putOutOnlyUnderSteam();
        lastWeek();
        settings();
        Check.finish();
    }

    private static void oneShutdownAtMost() {
        Script.run("A boiler has at most one shutdown that is planned: weeks from one on to another one", """
            boiler(10) | boiler(10) | inspector(0, 3) | inspect(0, 0) = 10 | boilerOf(0, 7) = NOT_FOUND
            boilerOf(0, 8) = NOT_FOUND
            plan(0, 3, 1) = 3 | boilerOf(0, 7..8) = 3 3 | boilerOf(1, 7..8) = NOT_FOUND
            plan(0, 5, 20) = 24 | boilerOf(0, 7..8) = 5 24
            plan(0, 0, 2) = 1 | boilerOf(0, 7..8) = 0 1 | why(0, -1) = 4
            plan(0, 1, 1) = 1 | why(0, -1) = 0 | plan(0, 5, 1) = 5 | pass(1) = 0 | why(0, -1) = 0
            pass(2) = 0 | why(0, -1) = 0 | boilerOf(0, 7..8) = 5 5
            """);
        Script.run("A boiler has at most one shutdown (the one in its place puts it out)", """
            boiler(10) | inspector(0, 3) | inspect(0, 0) = 10 | fire(0) = 53 | plan(0, 1, 20) = 20 | goesOn(0) = 1
            plan(0, 3, 1) = 3 | goesOn(0) = 3 | pass(2) = 0 | boilerOf(0, 3) = 1 | pass(1) = 1
            """);
    }

    private static void coldCanGoToRepair() {
        Script.run("A boiler that is cold can go to repair", """
            boiler(10) | repair(0) = 1 | repair(0) = NOT_POSSIBLE | pass(1) = 0 | boilerOf(0, 4) = 0
            repair(0) = 1 | pass(1) = 0 | inspector(0, 1) | pass(1) = 0 | inspect(0, 0) = 10
            plan(0, 3, 5) = 7 | repair(0) = 1 | repair(0) = NOT_POSSIBLE | boilerOf(0, 5) = 1
            """);
        Script.run("A boiler that is cold can go to repair (not under steam)", """
            boiler(10) | inspector(0, 1) | inspect(0, 0) = 10 | fire(0) = 53 | repair(0) = NOT_POSSIBLE
            pass(5) = 0 | repair(0) = NOT_POSSIBLE | out(0) = 10 | repair(0) = 2
            """);
    }

    private static void howLongARepairTakes() {
        int[][] weeks = {{0, 1}, {9, 1}, {10, 2}, {19, 2}, {20, 3}, {99, 10}, {100, 11}, {199, 20}, {200, 21}};
        for (int[] pair : weeks) {
            int takes = pair[1];
            String before = takes == 1 ? "" : "pass(" + (takes - 1) + ") = 0";
            Script.run("that takes (its wear divided by 10, plus 1) weeks (wear " + pair[0] + ")", Setups.worn(pair[0]),
                "boilerOf(0, 5) = NOT_FOUND | repair(0) = " + takes + " | boilerOf(0, 5) = " + takes
                + " | count(11) = " + takes + "\n", before,
                "\nboilerOf(0, 3) = 2 | boilerOf(0, 5) = 1 | boilerOf(0, 2) = " + pair[0]
                + " | pass(1) = 0 | boilerOf(0, 3) = 0 | boilerOf(0, 5) = NOT_FOUND | count(11) = " + takes);
        }
    }

    private static void ownerPaysTheShop() {
        Script.run("the owner pays the shop setting 3 for each of these", Setups.worn(19), """
            account(2) = 0 | repair(0) = 2 | account(0..3) = 8 0 30 -38 | undo() = 3
            set(3, 0) = 15 | repair(0) = 2 | account(0..3) = 8 0 0 -8 | count(11) = 2 | undo() = 3
            set(3, 99) = 0 | repair(0) = 2 | account(0..3) = 8 0 198 -206 | count(7) = 0
            set(3, 1) = 99 | pass(2) = 0 | account(0..3) = 8 0 198 -206
            repair(0) = 1 | account(0..3) = 8 0 199 -207 | count(11) = 3 | repair(0) = NOT_POSSIBLE
            account(2) = 199
            """);
    }

    private static void wearIsAQuarter() {
        int[][] quarters = {{0, 0}, {1, 0}, {3, 0}, {4, 1}, {7, 1}, {8, 2}, {99, 24}, {100, 25}, {199, 49}, {200, 50}};
        for (int[] pair : quarters) {
            int takes = pair[0] / 10 + 1;
            Script.run("When the repair ends, its wear is a quarter of what it was (wear " + pair[0] + ")",
                Setups.worn(pair[0]), "repair(0) | boilerOf(0, 2) = " + pair[0] + " | pass(" + takes
                + ") = 0 | boilerOf(0, 2) = " + pair[1] + " | pass(5) = 0 | boilerOf(0, 2) = " + pair[1]);
        }
    }

    private static void nothingIsAskedFor() {
        Script.run("When the repair ends, nothing is asked for", Setups.worn(121), """
            inspect(0, 0) = 0 | boilerOf(0, 6) = 1 | count(5) = 1 | repair(0) = 13 | pass(12) = 0
            boilerOf(0, 6) = 1 | count(5) = 1 | count(4) = 1
            pass(1) = 0 | boilerOf(0, 6) = 0 | count(5) = 0 | count(4) = 0 | boilerOf(0, 2) = 30
            why(0, 0) = 3 | pass(1) = 0 | why(0, 0) = 0 | inspect(0, 0) = 34 | boilerOf(0, 6) = 0
            """);
    }

    private static void paperIsGoneWithTheRepair() {
        Script.run("When the repair ends, its paper is gone", """
            boiler(10) | inspector(0, 1) | inspect(0, 0) = 10 | repair(0) = 1 | paperOf(0, 0..2) = 0 10 52
            count(6) = 1
            pass(1) = 0 | paperOf(0, 0..2) = NOT_FOUND | count(6) = 0 | why(0, -1) = 5
            """);
        Script.run("When the repair ends, its paper is gone (in the last week of the paper)", """
            boiler(10) | inspector(0, 1) | inspect(0, 0) = 10 | pass(51) = 0 | repair(0) = 1 | pass(1) = 0
            count(2) = 52 | paperOf(0, 0..2) = NOT_FOUND
            """);
        Script.run("When the repair ends (what it was built for, its pressure and its shutdown stay)",
            Setups.worn(50), """
            press(0, 7) = 1 | plan(0, 15, 5) = 19 | repair(0) = 6 | pass(6) = 0
            boilerOf(0, 0..9) = 40 7 12 0 0 - 0 15 19 37
            """);
    }

    private static void stepsOfAWeek() {
        Script.run("When a week passes: (1) the wear grows ahead of (6), that it is put out", """
            boiler(10) | inspector(0, 1) | inspect(0, 0) = 10 | fire(0) = 53 | plan(0, 1, 1) = 1
            pass(1) = 1 | boilerOf(0, 2) = 2 | boilerOf(0, 4) = 0 | pass(1) = 0 | boilerOf(0, 2) = 2
            boilerOf(0, 4) = 1
            """);
        Script.run("When a week passes: (1) cold weeks are 1 more ahead of (3) and (6), that they are 0", """
            boiler(10) | boiler(10) | boiler(10) | inspector(0, 3) | inspect(0..2, 0) = 10
            fire(0) = 53 | plan(0, 1, 1) = 1 | repair(1) = 1 | boilerOf(0..2, 4) = - - 1
            pass(1) = 1 | boilerOf(0..2, 4) = 0 0 2 | pass(1) = 0 | boilerOf(0..2, 4) = 1 1 3
            """);
        Script.run("When a week passes: (4) papers are gone ahead of (6), (5) shutdowns are gone ahead of (6)", """
            boiler(10) | inspector(0, 3) | inspect(0, 0) = 10 | pass(52) = 0 | plan(0, 50, 1) = INVALID
            plan(0, 52, 1) = 52 | why(0, -1) = 4 | undo() = 3 | fire(0) = 1 | goesOn(0) = 1
            pass(1) = 1 | paperOf(0, 2) = NOT_FOUND | boilerOf(0, 3) = 0
            """);
    }

    private static void weekBecomesOneMore() {
        Script.run("Weeks are counted from 0; (2) the week becomes 1 more", """
            count(2) = 0 | pass(1) = 0 | count(2) = 1 | pass(2) = 0 | count(2) = 3 | pass(60) = 0 | count(2) = 63
            undo() = 2 | count(2) = 3 | undo() = 1 | count(2) = 1 | undo() = 0 | count(2) = 0
            """);
    }

    private static void repairsThatAreOver() {
        Script.run("(3) repairs that are over end", """
            boiler(10) | boiler(10) | repair(0) = 1 | pass(1) = 0 | repair(1) = 1 | boilerOf(0..1, 3) = 0 2
            count(4) = 2
            pass(1) = 0 | boilerOf(0..1, 3) = 0 | boilerOf(0..1, 4) = 1 0 | count(4) = 0
            """);
        Script.run("(3) repairs that are over end (in the midst of weeks that pass)", Setups.worn(20), """
            repair(0) = 3 | pass(2) = 0 | boilerOf(0, 5) = 1 | undo() = 3 | boilerOf(0, 5) = 3
            pass(4) = 0 | boilerOf(0, 3) = 0 | boilerOf(0, 4) = 1 | boilerOf(0, 2) = 5
            """);
    }

    private static void papersWhoseLastWeekIsPast() {
        Script.run("(4) papers whose last week is past are gone", Setups.HOUSE, """
            boiler(10) = 1 | inspect(0, 0) = 40 | inspect(1, 1) = 9 | pass(40) = 0 | count(6) = 3
            pass(1) = 0 | count(6) = 1 | paperOf(0, 2) = 52 | paperOf(1, 2) = NOT_FOUND
            pass(11) = 0 | count(6) = 1 | pass(1) = 0 | count(6) = 0
            """);
    }

    private static void shutdownsWhoseLastWeekIsPast() {
        Script.run("(5) shutdowns whose last week is past are gone", """
            boiler(10) | plan(0, 0, 1) = 0 | boilerOf(0, 7..8) = 0 0 | pass(1) = 0 | boilerOf(0, 7..8) = NOT_FOUND
            plan(0, 2, 2) = 3 | pass(1) = 0 | boilerOf(0, 7..8) = 2 3 | pass(1) = 0 | boilerOf(0, 7..8) = 2 3
            pass(1) = 0 | boilerOf(0, 7..8) = NOT_FOUND
            plan(0, 4, 20) = 23 | pass(19) = 0 | boilerOf(0, 7..8) = 4 23 | pass(1) = 0
            boilerOf(0, 7..8) = NOT_FOUND
            """);
        Script.run("(5) shutdowns whose last week is past are gone (of one in repair)", Setups.worn(20), """
            plan(0, 5, 2) = 6 | repair(0) = 3 | pass(1) = 0 | boilerOf(0, 7..8) = 5 6
            pass(1) = 0 | boilerOf(0, 7..8) = NOT_FOUND | boilerOf(0, 3) = 2
            """);
    }

    private static void putOutByShutdown() {
        Script.run("(6) for which a shutdown is planned for this week, is put out (in its first week)", """
            boiler(10) | inspector(0, 1) | inspect(0, 0) = 10 | fire(0) = 53 | plan(0, 3, 2) = 4
            pass(1) = 0 | pass(1) = 0 | boilerOf(0, 3) = 1 | count(10) = 0
            pass(1) = 1 | boilerOf(0, 3) = 0 | boilerOf(0, 4) = 0 | boilerOf(0, 7..8) = 3 4 | paperOf(0, 2) = 52
            count(10) = 1
            pass(1) = 0 | why(0, -1) = 4 | pass(1) = 0 | fire(0) = 48 | pass(47) = 0 | pass(1) = 1 | count(10) = 2
            """);
        Script.run("(6) each boiler is put out (in the same week, all)", """
            8 x boiler(10) | 3 x inspector(0, 3)
            inspect(0..2, 0) = 10 | inspect(3..5, 1) = 10 | inspect(6..7, 2) = 10 | fire(0..7) = 53
            pass(52) = 0 | count(3) = 255 | pass(1) = 8 | count(3) = 0 | count(10) = 8
            boilerOf(0..7, 4) = 0 | boilerOf(0..7, 2) = 106
            """);
        Script.run("(6) each boiler is put out (in several of the weeks that pass)", """
            8 x boiler(10) | 3 x inspector(0, 3)
            inspect(0..2, 0) = 10 | inspect(3..5, 1) = 10 | inspect(6..7, 2) = 10 | fire(0..7) = 53
            plan(0, 1, 1) = 1 | plan(1, 5, 1) = 5 | plan(2, 60, 1) = 60 | plan(3, 53, 1) = 53
            pass(60) = 8 | count(10) = 8 | boilerOf(0..7, 4) = 59 55 7 7 7 7 7 7
            boilerOf(0..7, 2) = 2 10 106 106 106 106 106 106 | boilerOf(2, 7) = 60 | boilerOf(3, 7) = NOT_FOUND
            """);
    }

    private static void putOutWithoutPaper() {
        Script.run("(6) each boiler under steam that has no paper is put out: it is cold, with 0 cold weeks", """
            boiler(10) | inspector(1, 1) | press(0, 9) = 10 | inspect(0, 0) = 9 | fire(0) = 41 | pass(40) = 0
            boilerOf(0, 3) = 1
            pass(1) = 1 | boilerOf(0, 3) = 0 | boilerOf(0, 4) = 0 | boilerOf(0, 2) = 41 | count(10) = 1
            pass(1) = 0
            """);
        Script.run("(6) no paper, or a shutdown for this week (both: it is put out once)", """
            boiler(10) | inspector(0, 1) | inspect(0, 0) = 10 | fire(0) = 53 | plan(0, 53, 1) = 53 | goesOn(0) = 53
            pass(52) = 0 | pass(1) = 1 | count(10) = 1 | why(0, -1) = 4 | boilerOf(0, 7) = 53 | pass(1) = 0
            why(0, -1) = 5
            """);
    }

    private static void putOutOnlyUnderSteam() {
        Script.run("(6) each boiler under steam (a cold one, and one in repair, are not put out)", """
            boiler(10) | boiler(10) | boiler(10) | inspector(0, 3) | inspect(0..2, 0) = 10 | plan(0..2, 1, 3) = 3
            repair(1) = 1 | fire(2) = 53 | pass(1) = 1 | count(10) = 1 | boilerOf(0..2, 4) = 2 0 0
            pass(60) = 0 | count(10) = 1 | boilerOf(0..2, 4) = 62 60 60
            """);
    }

    private static void lastWeek() {
        Script.run("LIMIT_REACHED if the week would be above 9999", Setups.HOUSE, """
            166 x pass(60) = 0 | count(2) = 9960 | pass(40) = LIMIT | pass(60) = LIMIT | pass(61) = INVALID
            pass(0) = INVALID
            pass(38) = 0 | count(2) = 9998 | pass(2) = LIMIT | pass(1) = 0 | count(2) = 9999
            pass(1) = LIMIT | pass(60) = LIMIT | pass(0) = INVALID | pass(61) = INVALID | pass(-1) = INVALID
            pass(MIN) = INVALID | pass(MAX) = INVALID | count(2) = 9999 | boilerOf(0, 4) = 10000
            """);
        Script.run("LIMIT_REACHED if the week would be above 9999 (none of the weeks passes)", Setups.HOUSE, """
            166 x pass(60) = 0 | pass(37) = 0 | inspect(0, 0) = 40 | fire(0) = 53 | plan(0, 9998, 1) = 9998
            pass(3) = LIMIT | boilerOf(0, 3) = 1 | boilerOf(0, 2) = 0 | pass(2) = 1 | boilerOf(0, 4) = 1
            pass(1) = LIMIT
            """);
        Script.run("the last week: what else is done in it", Setups.lastWeek(), """
            plan(0, 9998, 1) = INVALID | plan(0, 10000, 1) = INVALID | plan(0, 9999, 0) = INVALID
            plan(0, 9999, 21) = INVALID
            inspect(0, 0) = 40 | fire(0) = 53 | plan(0, 9999, 1) = NOT_POSSIBLE | first(1) = 10051 | goesOn(0) = 53
            out(0) = 0 | plan(0, 9999, 20) = 10018 | boilerOf(0, 7..8) = 9999 10018 | why(0, -1) = 4
            repair(0) = 1 | boilerOf(0, 5) = 1 | boiler(2) = 1 | boilerOf(1, 4) = 1 | pass(1) = LIMIT
            """);
    }

    private static void settings() {
        Script.run("The settings are (in parentheses: range; first value): 0 (0 to 200; 120), 1 (0 to 200; 90)", """
            count(20..23) = 120 90 8 15
            set(0, -1) = INVALID | set(0, 201) = INVALID | set(0, MIN) = INVALID | set(0, MAX) = INVALID
            count(20) = 120
            set(0, 0) = 120 | set(0, 200) = 0 | set(0, 201) = INVALID | set(0, -1) = INVALID
            count(20..23) = 200 90 8 15
            set(1, -1) = INVALID | set(1, 201) = INVALID | set(1, MIN) = INVALID | set(1, MAX) = INVALID
            count(21) = 90
            set(1, 0) = 90 | set(1, 200) = 0 | set(1, 201) = INVALID | set(1, -1) = INVALID
            count(20..23) = 200 200 8 15
            """);
        Script.run("The settings are: 2 (0 to 99; 8), 3 (0 to 99; 15)", """
            set(2, -1) = INVALID | set(2, 100) = INVALID | set(2, 200) = INVALID | set(2, MIN) = INVALID
            set(2, MAX) = INVALID
            set(2, 0) = 8 | set(2, 99) = 0 | set(2, 100) = INVALID | set(2, -1) = INVALID
            count(20..23) = 120 90 99 15
            set(3, -1) = INVALID | set(3, 100) = INVALID | set(3, 200) = INVALID | set(3, MIN) = INVALID
            set(3, MAX) = INVALID
            set(3, 0) = 15 | set(3, 99) = 0 | set(3, 100) = INVALID | set(3, -1) = INVALID
            count(20..23) = 120 90 99 99
            """);
        Script.run("set: what: 0 to 3", """
            set(-1, 0) = INVALID | set(4, 0) = INVALID | set(-1, 1) = INVALID | set(4, 1) = INVALID
            set(20, 5) = INVALID
            set(MIN, 0) = INVALID | set(MAX, 0) = INVALID | set(MIN, MAX) = INVALID | set(4, 201) = INVALID
            set(0, 120) = 120 | set(1, 90) = 90 | set(2, 8) = 8 | set(3, 15) = 15 | count(13) = 4
            set(0, 5) = 120 | set(1, 6) = 90 | set(2, 7) = 8 | set(3, 9) = 15 | count(20..23) = 5 6 7 9
            """);
    }
}
