/** Terms: boilers, papers. */
public final class TermsOfBoilersTest {
    public static void main(String[] args) {
        setsAreBits();
        atMostEightBoilers();
        builtFor();
        workingPressure();
        coldUnderSteamOrInRepair();
        coldWeeks();
        wearGrows();
        wearOfOthersStays();
        wearIsNotAbove200();
        paperOrNone();
        paperHoldsToTheEndOfItsLastWeek();
        strength();
        strengthOfEveryWear();
        paperOfInsurer0();
        paperOfInsurer1();
        holdsInTheWeekOfNow();
        wearAboveTheSetting();
        pressureBelowOne();
        paperThatThereWasIsGone();
        Check.finish();
    }

    private static void setsAreBits() {
        Script.run("Sets of boilers are told as bits: bit k is for the boiler k (none, all)", """
            count(3..6) = 0 | count(12) = 0
            8 x boiler(10) | 3 x inspector(0, 3)
            count(3..6) = 0 | count(12) = 0
            inspect(0..2, 0) = 10 | inspect(3..5, 1) = 10 | inspect(6..7, 2) = 10
            count(3..6) = 0 0 0 255 | count(12) = 255
            fire(0..7) = 53
            count(3..6) = 255 0 0 255 | count(12) = 0
            out(0..7) = 0 | repair(0..7) = 1
            count(3..6) = 0 255 0 255 | count(12) = 0
            """);
        Script.run("Sets of boilers are told as bits: bit k is for the boiler k (the first, the last)", """
            8 x boiler(10) | inspector(0, 3)
            inspect(0, 0) = 10 | count(6) = 1 | count(12) = 1
            inspect(7, 0) = 10 | count(6) = 129 | count(12) = 129
            fire(7) = 53 | count(3) = 128 | count(12) = 1
            fire(0) = 53 | count(3) = 129 | count(12) = 0
            repair(1) = 1 | count(4) = 2 | repair(6) = 1 | count(4) = 66
            pass(1) = 0 | out(0) = 2 | out(7) = 2 | set(0, 1) = 120 | pass(1) = 0
            inspect(7, 0) = 0 | count(5) = 128 | count(6) = 1
            inspect(0, 0) = 0 | count(5) = 129 | count(6) = 0
            """);
    }

    private static void atMostEightBoilers() {
        Script.run("There are at most 8 boilers, numbered from 0 in the order in which they came", """
            count(0) = 0 | boilerOf(0, 0) = INVALID
            boiler(2) = 0 | count(0) = 1 | boilerOf(0, 0) = 2 | boilerOf(1, 0) = INVALID
            boiler(3) = 1 | boiler(4) = 2 | boiler(5) = 3 | boiler(6) = 4 | boiler(7) = 5 | boiler(8) = 6
            count(0) = 7 | boilerOf(7, 0) = INVALID
            boiler(9) = 7 | count(0) = 8
            boiler(10) = LIMIT | boiler(2) = LIMIT | boiler(40) = LIMIT | count(0) = 8
            boilerOf(0..7, 0) = 2 3 4 5 6 7 8 9 | boilerOf(8, 0) = INVALID
            undo() = 3 | count(0) = 7 | boilerOf(7, 0) = INVALID
            boiler(11) = 7 | boilerOf(7, 0) = 11 | boiler(12) = LIMIT
            """);
    }

    private static void builtFor() {
        Script.run("each built for a pressure (2 to 40)", """
            boiler(1) = INVALID | boiler(41) = INVALID | boiler(0) = INVALID | boiler(-1) = INVALID
            boiler(-2) = INVALID | boiler(-40) = INVALID | boiler(MIN) = INVALID | boiler(MAX) = INVALID
            count(0) = 0 | count(13) = 0
            boiler(2) = 0 | boiler(40) = 1 | boiler(3) = 2 | boiler(39) = 3
            boiler(1) = INVALID | boiler(41) = INVALID
            boilerOf(0..3, 0) = 2 40 3 39 | count(0) = 4
            """);
        for (int pressure = 2; pressure <= 40; pressure++) {
            Script.run("each built for a pressure", "boiler(" + pressure + ") = 0 | boilerOf(0, 0) = " + pressure
                + " | boilerOf(0, 1) = " + pressure + " | boilerOf(0, 9) = " + pressure);
        }
    }

    private static void workingPressure() {
        Script.run("with a working pressure (1 to that; that itself at first)", """
            boiler(2) = 0 | boiler(40) = 1 | boilerOf(0, 1) = 2 | boilerOf(1, 1) = 40
            press(0, 0) = INVALID | press(0, 3) = INVALID | boilerOf(0, 1) = 2
            press(0, 1) = 2 | press(0, 0) = INVALID | press(0, 2) = 1 | press(0, 3) = INVALID | boilerOf(0, 1) = 2
            press(1, 40) = 40 | press(1, 41) = INVALID | press(1, 1) = 40 | press(1, 0) = INVALID
            press(1, -1) = INVALID | press(1, MIN) = INVALID | press(1, MAX) = INVALID | boilerOf(1, 1) = 1
            boilerOf(0..1, 0) = 2 40
            """);
    }

    private static void coldUnderSteamOrInRepair() {
        Script.run("A boiler is cold (at first), under steam, or in repair; and wear (0 to 200; 0 at first)",
            Setups.HOUSE, """
            boilerOf(0, 3) = 0 | boilerOf(0, 2) = 0 | count(3) = 0 | count(4) = 0
            inspect(0, 0) = 40 | boilerOf(0, 3) = 0
            fire(0) = 53 | boilerOf(0, 3) = 1 | count(3) = 1 | count(4) = 0
            out(0) = 0 | boilerOf(0, 3) = 0 | count(3) = 0 | count(4) = 0
            repair(0) = 1 | boilerOf(0, 3) = 2 | count(3) = 0 | count(4) = 1
            pass(1) = 0 | boilerOf(0, 3) = 0 | count(3) = 0 | count(4) = 0
            """);
    }

    private static void coldWeeks() {
        Script.run("Its cold weeks are how many weeks have passed since it became cold (of a new one 1)", """
            boiler(10) = 0 | boilerOf(0, 4) = 1
            pass(1) = 0 | boiler(10) = 1 | boilerOf(0..1, 4) = 2 1
            pass(60) = 0 | boilerOf(0..1, 4) = 62 61
            """);
        Script.run("Its cold weeks are how many weeks have passed since it became cold", """
            boiler(10) | inspector(0, 1) | pass(3) = 0 | inspect(0, 0) = 10 | boilerOf(0, 4) = 4
            fire(0) = 53 | boilerOf(0, 4) = NOT_FOUND
            pass(2) = 0 | boilerOf(0, 4) = NOT_FOUND
            out(0) = 4 | boilerOf(0, 4) = 0
            pass(1) = 0 | boilerOf(0, 4) = 1 | pass(1) = 0 | boilerOf(0, 4) = 2
            fire(0) = 49 | pass(48) = 0 | boilerOf(0, 4) = NOT_FOUND
            pass(1) = 1 | boilerOf(0, 4) = 0 | pass(1) = 0 | boilerOf(0, 4) = 1
            """);
        Script.run("Its cold weeks: since it became cold in the midst of weeks that pass", """
            boiler(10) | inspector(0, 1) | inspect(0, 0) = 10 | fire(0) = 53
            pass(52) = 0 | pass(9) = 1 | count(2) = 61 | boilerOf(0, 4) = 8
            """);
        Script.run("Its cold weeks are how many weeks have passed since its repair ended", """
            boiler(10) | pass(5) = 0 | boilerOf(0, 4) = 6
            repair(0) = 1 | boilerOf(0, 4) = NOT_FOUND
            pass(1) = 0 | boilerOf(0, 4) = 0 | pass(1) = 0 | boilerOf(0, 4) = 1
            repair(0) = 1 | pass(5) = 0 | boilerOf(0, 4) = 4
            """);
    }

    private static void wearGrows() {
        Script.run("greater by 1 plus (its working pressure divided by 10)", """
            8 x boiler(40) | 3 x inspector(0, 3)
            inspect(0..2, 0) = 40 | inspect(3..5, 1) = 40 | inspect(6..7, 2) = 40
            press(0, 1) = 40 | press(1, 9) = 40 | press(2, 10) = 40 | press(3, 19) = 40
            press(4, 20) = 40 | press(5, 29) = 40 | press(6, 30) = 40 | press(7, 39) = 40
            fire(0..7) = 53 | pass(1) = 0 | boilerOf(0..7, 2) = 1 1 2 2 3 3 4 4
            press(7, 40) = 39 | press(0, 10) = 1 | pass(1) = 0 | boilerOf(0..7, 2) = 3 2 4 4 6 6 8 9
            pass(10) = 0 | boilerOf(0..7, 2) = 23 12 24 24 36 36 48 59
            """);
    }

    private static void wearOfOthersStays() {
        Script.run("When a week passes, the wear of a boiler under steam is greater (of others it stays)",
            Setups.worn(17), """
            boilerOf(0, 2) = 17 | pass(1) = 0 | boilerOf(0, 2) = 17 | pass(60) = 0 | boilerOf(0, 2) = 17
            repair(0) = 2 | boilerOf(0, 2) = 17 | pass(1) = 0 | boilerOf(0, 2) = 17
            pass(1) = 0 | boilerOf(0, 2) = 4 | pass(5) = 0 | boilerOf(0, 2) = 4
            """);
    }

    private static void wearIsNotAbove200() {
        String[] onwards = {
            "pass(1) = 0 | boilerOf(0, 2) = 200 | pass(1) = 0 | boilerOf(0, 2) = 200 | pass(9) = 0",
            "press(0, 39) = 40 | pass(1) = 0 | boilerOf(0, 2) = 199 | press(0, 40) = 39 | pass(1) = 0",
            "press(0, 9) = 40 | pass(1) = 0 | boilerOf(0, 2) = 196 | press(0, 40) = 9 | pass(1) = 0",
            "press(0, 9) = 40 | pass(1) = 0 | boilerOf(0, 2) = 196 | press(0, 39) = 9 | pass(1) = 0",
            "press(0, 9) = 40 | pass(2) = 0 | boilerOf(0, 2) = 197 | press(0, 30) = 9 | pass(1) = 0",
            "press(0, 9) = 40 | pass(3) = 0 | boilerOf(0, 2) = 198 | press(0, 10) = 9 | pass(1) = 0",
            "press(0, 9) = 40 | pass(3) = 0 | boilerOf(0, 2) = 198 | press(0, 20) = 9 | pass(1) = 0",
            "press(0, 9) = 40 | pass(4) = 0 | boilerOf(0, 2) = 199 | pass(1) = 0 | boilerOf(0, 2) = 200 | pass(1) = 0",
            "press(0, 9) = 40 | pass(4) = 0 | boilerOf(0, 2) = 199 | press(0, 10) = 9 | pass(1) = 0"};
        for (String onward : onwards) {
            Script.run("but not above 200", Setups.HOUSE,
                "inspect(0, 0) = 40 | fire(0) = 53 | pass(39) = 0 | boilerOf(0, 2) = 195\n", onward,
                "\nboilerOf(0, 2) = 200 | boilerOf(0, 9) = 0 | boilerOf(0, 3) = 1 | out(0) = 200");
        }
    }

    private static void paperOrNone() {
        Script.run("A boiler has a paper or none; a paper has an insurer (0 or 1), a pressure, and a last week",
            Setups.HOUSE, """
            paperOf(0, 0..2) = NOT_FOUND | count(6) = 0
            inspect(0, 1) = 36 | paperOf(0, 0..2) = 1 36 40 | count(6) = 1
            inspect(0, 0) = 40 | paperOf(0, 0..2) = 0 40 52 | count(6) = 1
            """);
    }

    private static void paperHoldsToTheEndOfItsLastWeek() {
        Script.run("It holds up to the end of its last week (of a cold one)", """
            boiler(10) | inspector(1, 1) | inspect(0, 0) = 9 | press(0, 9) = 10
            pass(39) = 0 | paperOf(0, 0..2) = 1 9 40 | why(0, -1) = 0
            pass(1) = 0 | paperOf(0, 0..2) = 1 9 40 | count(6) = 1 | why(0, -1) = 0 | count(12) = 1
            pass(1) = 0 | paperOf(0, 0..2) = NOT_FOUND | count(6) = 0 | why(0, -1) = 5 | count(12) = 0
            fire(0) = NOT_POSSIBLE | count(10) = 0
            """);
        Script.run("It holds up to the end of its last week (of one under steam)", """
            boiler(10) | inspector(0, 1) | inspect(0, 0) = 10 | fire(0) = 53
            pass(51) = 0 | first(1) = 52 | goesOn(0) = 2
            pass(1) = 0 | boilerOf(0, 3) = 1 | paperOf(0, 2) = 52 | first(1) = 52 | goesOn(0) = 1
            pass(1) = 1 | boilerOf(0, 3) = 0 | paperOf(0, 2) = NOT_FOUND | count(6) = 0
            """);
        Script.run("It holds up to the end of its last week (fired in it)", """
            boiler(10) | inspector(0, 1) | inspect(0, 0) = 10 | pass(52) = 0 | why(0, -1) = 0
            fire(0) = 1 | goesOn(0) = 1 | pass(1) = 1 | paperOf(0, 2) = NOT_FOUND
            """);
        Script.run("It holds up to the end of its last week (in repair)", Setups.worn(200), """
            repair(0) = 21 | pass(11) = 0 | count(2) = 52 | paperOf(0, 0..2) = 0 40 52
            pass(1) = 0 | boilerOf(0, 3) = 2 | paperOf(0, 0..2) = NOT_FOUND | count(6) = 0
            """);
    }

    private static void strength() {
        Script.run("what it was built for times (200 less its wear), divided by 200 (built for 2)", """
            boiler(2) | inspector(0, 3) | inspect(0, 0) = 2 | press(0, 1) = 2 | fire(0) = 53 | boilerOf(0, 9) = 2
            pass(1) = 0 | boilerOf(0, 2) = 1 | boilerOf(0, 9) = 1
            pass(49) = 0 | out(0) = 50 | pass(1) = 0 | inspect(0, 0) = 1 | paperOf(0, 2) = 93 | fire(0) = 43
            pass(42) = 0 | out(0) = 92 | pass(1) = 0 | inspect(0, 0) = 1 | paperOf(0, 2) = 128 | fire(0) = 35
            pass(8) = 0 | boilerOf(0, 2) = 100 | boilerOf(0, 9) = 1 | would(0, 0, 0) = 1
            pass(1) = 0 | boilerOf(0, 2) = 101 | boilerOf(0, 9) = 0 | would(0, 0, 0) = 0
            """);
        int[][] strengths = {{0, 40}, {1, 39}, {4, 39}, {5, 39}, {6, 38}, {99, 20}, {100, 20}, {101, 19},
            {195, 1}, {196, 0}, {199, 0}, {200, 0}};
        for (int[] pair : strengths) {
            Script.run("what it was built for times (200 less its wear), divided by 200", Setups.worn(pair[0]),
                "boilerOf(0, 2) = " + pair[0] + " | boilerOf(0, 9) = " + pair[1] + " | boilerOf(0, 0) = 40");
        }
    }

    private static void strengthOfEveryWear() {
        for (int wear = 0; wear <= 200; wear++) {
            int strength = (8000 - 40 * wear - (8000 - 40 * wear) % 200) / 200;
            int ofOne = (9 * strength - 9 * strength % 10) / 10;
            int weeks = 52 - (wear - wear % 5) / 5;
            int week = Setups.weekOf(wear);
            Script.run("The insurer 0 gives a paper for the strength; the insurer 1 for the strength times 9",
                Setups.worn(wear), "set(0, 200) | set(1, 200) | boilerOf(0, 9) = " + strength
                + " | would(0, 0, 0) = " + strength + " | would(0, 1, 0) = " + ofOne
                + " | would(0, 0, 1) = " + (strength > 0 ? week + weeks : Check.NONE)
                + " | would(0, 1, 1) = " + (ofOne > 0 ? week + 40 : Check.NONE));
        }
    }

    private static void paperOfInsurer0() {
        int[][] papers = {{0, 40, 53}, {4, 39, 57}, {5, 39, 53}, {9, 38, 57}, {10, 38, 53}, {14, 37, 57},
            {15, 37, 53}, {119, 16, 57}, {120, 16, 53}};
        for (int[] row : papers) {
            Script.run("The insurer 0 gives a paper for the strength, and for 52 less (the wear divided by 5) weeks",
                Setups.worn(row[0]), "inspect(0, 0) = " + row[1] + " | paperOf(0, 0..2) = 0 " + row[1] + " " + row[2]);
        }
    }

    private static void paperOfInsurer1() {
        int[][] papers = {{0, 36, 41}, {4, 35, 45}, {5, 35, 42}, {9, 34, 46}, {10, 34, 43}, {89, 19, 62}, {90, 19, 59}};
        for (int[] row : papers) {
            Script.run("the insurer 1 for the strength times 9, divided by 10, and for 40 weeks",
                Setups.worn(row[0]), "inspect(0, 1) = " + row[1] + " | paperOf(0, 0..2) = 1 " + row[1] + " " + row[2]);
        }
        int[] ninths = {1, 2, 3, 4, 5, 6, 7, 8, 9, 9, 10, 11, 12, 13, 14, 15, 16, 17, 18, 18, 19};
        for (int i = 0; i < ninths.length; i++) {
            Script.run("the strength times 9, divided by 10", "boiler(" + (2 + i) + ") = 0 | inspector(1, 1) = 0",
                "inspect(0, 0) = " + ninths[i] + " | paperOf(0, 1) = " + ninths[i]);
        }
    }

    private static void holdsInTheWeekOfNow() {
        Script.run("A paper for some weeks holds in the week of now and so many behind it", Setups.HOUSE, """
            would(0, 0, 1) = 52 | would(0, 1, 1) = 40
            pass(7) = 0 | would(0, 0, 1) = 59 | would(0, 1, 1) = 47
            inspect(0, 1) = 36 | paperOf(0, 2) = 47 | press(0, 36) = 40 | fire(0) = 41 | goesOn(0) = 41 | out(0) = 0
            pass(1) = 0 | inspect(0, 0) = 40 | paperOf(0, 2) = 60 | fire(0) = 53 | goesOn(0) = 53
            pass(52) = 0 | boilerOf(0, 3) = 1 | pass(1) = 1
            """);
        Script.run("A paper holds in the week of now and so many behind it (behind the last week)",
            Setups.lastWeek(), """
            would(0, 0, 1) = 10051 | would(0, 1, 1) = 10039
            inspect(0, 1) = 36 | paperOf(0, 2) = 10039 | inspect(0, 0) = 40 | paperOf(0, 2) = 10051 | fire(0) = 53
            """);
    }

    private static final String GIVEN = " | boilerOf(0, 6) = 0 | count(5) = 0 | count(6) = 1 | why(0, -1) = 0";
    private static final String NONE_GIVEN =
        " | boilerOf(0, 6) = 1 | count(5) = 1 | count(6) = 0 | paperOf(0, 0..2) = - | why(0, -1) = 3 | why(0, 0..1) = 4";

    private static void edge(String title, int wear, String lines) {
        Script.run(title + " (wear " + wear + ")", Setups.worn(wear), "paperOf(0, 0..2) = 0 40 52\n", lines);
    }

    private static void wearAboveTheSetting() {
        String of0 = "If the wear is above setting 0 for the insurer 0, no paper is given, and a repair is asked for";
        edge(of0, 120, "would(0, 0, 0) = 16 | inspect(0, 0) = 16" + GIVEN);
        edge(of0, 121, "would(0, 0, 0) = 0 | would(0, 0, 1) = NOT_FOUND | inspect(0, 0) = 0" + NONE_GIVEN);
        edge(of0, 121, "set(0, 121) = 120 | inspect(0, 0) = 15" + GIVEN);
        edge(of0, 121, "set(1, 200) = 90 | inspect(0, 0) = 0" + NONE_GIVEN);
        edge(of0, 91, "set(1, 0) = 90 | inspect(0, 0) = 21" + GIVEN);
        edge(of0, 0, "set(0, 0) = 120 | inspect(0, 0) = 40" + GIVEN);
        edge(of0, 1, "set(0, 0) = 120 | inspect(0, 0) = 0" + NONE_GIVEN);
        edge(of0, 195, "set(0, 195) = 120 | inspect(0, 0) = 1" + GIVEN);
        edge(of0, 195, "set(0, 194) = 120 | inspect(0, 0) = 0" + NONE_GIVEN);
        String of1 = "or above setting 1 for the insurer 1, no paper is given, and a repair is asked for";
        edge(of1, 90, "would(0, 1, 0) = 19 | inspect(0, 1) = 19" + GIVEN);
        edge(of1, 91, "would(0, 1, 0) = 0 | would(0, 1, 1) = NOT_FOUND | inspect(0, 1) = 0" + NONE_GIVEN);
        edge(of1, 91, "set(1, 91) = 90 | inspect(0, 1) = 18" + GIVEN);
        edge(of1, 91, "set(0, 200) = 120 | inspect(0, 1) = 0" + NONE_GIVEN);
        edge(of1, 90, "set(0, 0) = 120 | inspect(0, 1) = 19" + GIVEN);
        edge(of1, 0, "set(1, 0) = 90 | inspect(0, 1) = 36" + GIVEN);
        edge(of1, 1, "set(1, 0) = 90 | inspect(0, 1) = 0" + NONE_GIVEN);
    }

    private static void pressureBelowOne() {
        String below = "so it is if the pressure would be below 1";
        edge(below, 195, "set(0, 200) = 120 | inspect(0, 0) = 1 | paperOf(0, 0..2) = 0 1 53" + GIVEN);
        edge(below, 196, "set(0, 200) = 120 | would(0, 0, 0..1) = 0 - | inspect(0, 0) = 0" + NONE_GIVEN);
        edge(below, 200, "set(0, 200) = 120 | would(0, 0, 0..1) = 0 - | inspect(0, 0) = 0" + NONE_GIVEN);
        edge(below, 190, "set(1, 200) = 90 | inspect(0, 1) = 1 | paperOf(0, 0..2) = 1 1 79" + GIVEN);
        edge(below, 191, "set(1, 200) = 90 | would(0, 1, 0..1) = 0 - | inspect(0, 1) = 0" + NONE_GIVEN);
        edge(below, 195, "set(1, 200) = 90 | would(0, 1, 0..1) = 0 - | inspect(0, 1) = 0" + NONE_GIVEN);
        edge(below, 200, "set(1, 200) = 90 | would(0, 1, 0..1) = 0 - | inspect(0, 1) = 0" + NONE_GIVEN);
    }

    private static void paperThatThereWasIsGone() {
        String gone = "A paper that there was is gone in any case";
        Script.run(gone + " (a lesser one is given)", Setups.HOUSE, """
            inspect(0, 0) = 40 | paperOf(0, 0..2) = 0 40 52 | inspect(0, 1) = 36 | paperOf(0, 0..2) = 1 36 40
            why(0, -1) = 6 | pass(40) = 0 | paperOf(0, 2) = 40 | pass(1) = 0 | paperOf(0, 0..2) = NOT_FOUND
            """);
        edge(gone, 121, "inspect(0, 0) = 0" + NONE_GIVEN);
        edge(gone, 91, "inspect(0, 1) = 0" + NONE_GIVEN);
        edge(gone, 91, "inspect(0, 1) = 0 | repair(0) = 10 | pass(11) = 0 | paperOf(0, 0..2) = -"
            + " | boilerOf(0, 2) = 22 | inspect(0, 1) = 31 | paperOf(0, 0..2) = 1 31 71");
    }
}
