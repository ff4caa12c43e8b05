/** Terms: inspectors, firing. */
public final class TermsOfInspectorsTest {
    public static void main(String[] args) {
        atMostSixInspectors();
        eachOfAnInsurer();
        inspectionsInAWeek();
        inspectionsAreLeftAnew();
        whyItCannotBeInspected();
        reasonRepairAskedFor();
        coldWeeksAreZero();
        ownerPaysTheInsurer();
        whyItMayNotBeFired();
        reasonRepairBeforeOthers();
        reasonShutdown();
        reasonNoPaperThatHolds();
        reasonPressure();
        Check.finish();
    }

    private static void atMostSixInspectors() {
        Script.run("There are at most 6 inspectors, numbered from 0 in the order in which they came", """
            count(1) = 0 | inspectorOf(0, 0) = INVALID
            inspector(0, 1) = 0 | count(1) = 1 | inspectorOf(0, 0) = 0 | inspectorOf(1, 0) = INVALID
            inspector(1, 2) = 1 | inspector(0, 3) = 2 | inspector(1, 1) = 3 | inspector(0, 2) = 4
            count(1) = 5 | inspectorOf(5, 0) = INVALID
            inspector(1, 3) = 5 | count(1) = 6
            inspector(0, 1) = LIMIT | inspector(1, 3) = LIMIT | count(1) = 6
            inspectorOf(0..5, 0) = 0 1 0 1 0 1 | inspectorOf(0..5, 1) = 1 2 3 1 2 3
            inspectorOf(0..5, 2) = 1 2 3 1 2 3
            inspectorOf(0..5, 3) = 0 | inspectorOf(0..5, 4) = 0 | inspectorOf(6, 0) = INVALID
            undo() = 3 | count(1) = 5 | inspectorOf(5, 0) = INVALID
            inspector(0, 2) = 5 | inspectorOf(5, 0..4) = 0 2 2 0 0 | inspector(0, 2) = LIMIT
            """);
    }

    private static void eachOfAnInsurer() {
        Script.run("each of an insurer, who can inspect so many boilers in a week (1 to 3)", """
            inspector(-1, 1) = INVALID | inspector(2, 1) = INVALID | inspector(-1, 3) = INVALID
            inspector(2, 3) = INVALID
            inspector(0, 0) = INVALID | inspector(0, 4) = INVALID | inspector(1, 0) = INVALID
            inspector(1, 4) = INVALID
            inspector(0, -1) = INVALID | inspector(MIN, 1) = INVALID | inspector(MAX, 1) = INVALID
            inspector(0, MIN) = INVALID | inspector(0, MAX) = INVALID | inspector(2, 4) = INVALID | count(1) = 0
            inspector(0, 1) = 0 | inspector(0, 3) = 1 | inspector(1, 1) = 2 | inspector(1, 3) = 3
            inspector(-1, 1) = INVALID | inspector(2, 1) = INVALID | inspector(1, 0) = INVALID
            inspector(1, 4) = INVALID
            inspectorOf(0..3, 0) = 0 0 1 1 | inspectorOf(0..3, 1) = 1 3 1 3 | count(1) = 4
            """);
    }

    private static void inspectionsInAWeek() {
        Script.run("who can inspect so many boilers in a week (1 to 3); 5 has done this week's inspections", """
            boiler(10) | inspector(0, 1) | inspector(0, 2) | inspector(1, 3)
            inspectorOf(0..2, 2) = 1 2 3 | why(0, 0..2) = 0
            inspect(0, 0) = 10 | inspectorOf(0..2, 2) = 0 2 3 | why(0, 0..2) = 5 0 0 | inspect(0, 0) = NOT_POSSIBLE
            inspect(0, 1) = 10 | inspectorOf(0..2, 2) = 0 1 3 | why(0, 0..2) = 5 0 0
            inspect(0, 1) = 10 | inspectorOf(0..2, 2) = 0 0 3 | why(0, 0..2) = 5 5 0 | inspect(0, 1) = NOT_POSSIBLE
            inspect(0, 2) = 9 | inspectorOf(2, 2) = 2 | why(0, 2) = 0 | inspect(0, 2) = 9 | inspectorOf(2, 2) = 1
            why(0, 2) = 0 | inspect(0, 2) = 9 | inspectorOf(2, 2) = 0 | why(0, 2) = 5 | inspect(0, 2) = NOT_POSSIBLE
            inspectorOf(0..2, 3) = 1 2 3 | inspectorOf(0..2, 4) = 1 2 3 | count(8) = 6 | count(9) = 6
            pass(1) = 0 | inspectorOf(0..2, 2) = 1 2 3 | why(0, 0..2) = 0 | inspect(0, 0) = 10
            inspectorOf(0..2, 3) = 2 2 3 | why(0, 0..2) = 5 0 0
            """);
        Script.run("so many boilers in a week (that of a paper not given, too)", Setups.worn(121), """
            inspector(0, 1) = 2 | inspect(0, 2) = 0 | inspectorOf(2, 0..4) = 0 1 0 1 0 | count(8..9) = 2 1
            inspect(0, 2) = NOT_POSSIBLE | inspectorOf(2, 0..4) = 0 1 0 1 0
            """);
        Script.run("so many boilers in a week (others, by the same inspector)", """
            8 x boiler(10) | inspector(0, 3) | inspector(1, 2)
            inspect(0..2, 0) = 10 | inspect(3..7, 0) = NOT_POSSIBLE | inspect(3..4, 1) = 9
            inspect(5..7, 1) = NOT_POSSIBLE
            count(6) = 31 | why(0..7, 0) = 5 | why(0..7, 1) = 5
            """);
    }

    private static void inspectionsAreLeftAnew() {
        Script.run("who can inspect so many boilers in a week (what was left of the week before is not added)",
            Setups.HOUSE, """
            inspect(0, 0) = 40 | inspectorOf(0..1, 2) = 2 3 | pass(1) = 0 | inspectorOf(0..1, 2) = 3
            3 x inspect(0, 0) = 40 | inspectorOf(0, 2) = 0 | pass(60) = 0 | inspectorOf(0..1, 2) = 3
            3 x inspect(0, 0) = 40 | inspect(0, 0) = NOT_POSSIBLE | undo() = 3 | inspectorOf(0, 2) = 1
            inspect(0, 0) = 40 | inspect(0, 0) = NOT_POSSIBLE
            """);
    }

    private static void whyItCannotBeInspected() {
        Script.run("Why a boiler cannot be inspected by an inspector now is the first of these that is so: 1 2 3 5",
            """
            boiler(10) | boiler(10) | inspector(0, 1) | inspector(0, 3)
            why(0, 0..1) = 0 | inspect(0, 0) = 10 | why(0, 0..1) = 5 0 | why(1, 0..1) = 5 0
            fire(0) = 53 | why(0, 0..1) = 2 | inspect(0, 0..1) = NOT_POSSIBLE
            out(0) = 0 | why(0, 0..1) = 3 | inspect(0, 0..1) = NOT_POSSIBLE
            repair(1) = 1 | why(1, 0..1) = 1 | inspect(1, 0..1) = NOT_POSSIBLE
            repair(0) = 1 | why(0, 0..1) = 1 | inspect(0, 0..1) = NOT_POSSIBLE
            pass(1) = 0 | why(0, 0..1) = 3 | why(1, 0..1) = 3 | inspect(0, 0..1) = NOT_POSSIBLE
            pass(1) = 0 | why(0, 0..1) = 0 | why(1, 0..1) = 0 | inspect(0, 0) = 10
            """);
    }

    private static void reasonRepairAskedFor() {
        Script.run("4 a repair is asked for; 5 the inspector has done this week's inspections", Setups.worn(121), """
            inspector(0, 1) = 2 | why(0, 0..2) = 0 | inspect(0, 2) = 0 | inspectorOf(2, 2) = 0
            why(0, 0..2) = 4 | inspect(0, 0..2) = NOT_POSSIBLE
            pass(1) = 0 | why(0, 0..2) = 4 | inspect(0, 0..2) = NOT_POSSIBLE
            """);
        Script.run("1 it is in repair (ahead of 4 and 5)", Setups.worn(1), """
            set(0, 0) = 120 | inspector(0, 1) = 2 | inspect(0, 2) = 0 | why(0, 0..2) = 4
            repair(0) = 1 | boilerOf(0, 6) = 1 | why(0, 0..2) = 1 | inspect(0, 0..2) = NOT_POSSIBLE
            pass(1) = 0 | why(0, 0..2) = 3 | pass(1) = 0 | why(0, 0..2) = 0 | inspect(0, 2) = 40
            """);
    }

    private static void coldWeeksAreZero() {
        Script.run("3 its cold weeks are 0 (1 of a new one)", """
            boiler(10) | inspector(0, 3) | boilerOf(0, 4) = 1 | why(0, 0) = 0 | inspect(0, 0) = 10 | fire(0) = 53
            out(0) = 0 | boilerOf(0, 4) = 0 | why(0, 0) = 3 | inspect(0, 0) = NOT_POSSIBLE
            pass(1) = 0 | boilerOf(0, 4) = 1 | why(0, 0) = 0 | inspect(0, 0) = 10
            fire(0) = 53 | pass(52) = 0 | pass(1) = 1 | boilerOf(0, 4) = 0 | why(0, 0) = 3
            inspect(0, 0) = NOT_POSSIBLE
            pass(1) = 0 | why(0, 0) = 0 | inspect(0, 0) = 4
            """);
    }

    private static void ownerPaysTheInsurer() {
        Script.run("The owner pays the insurer setting 2 for an inspection", Setups.HOUSE, """
            account(0..3) = 0 | inspect(0, 0) = 40 | account(0..3) = 8 0 0 -8 | count(7) = 0
            set(2, 0) = 8 | inspect(0, 1) = 36 | account(0..3) = 8 0 0 -8
            set(2, 99) = 0 | inspect(0, 1) = 36 | account(0..3) = 8 99 0 -107 | count(7) = 0
            set(2, 1) = 99 | inspect(0, 0) = 40 | account(0..3) = 9 99 0 -108
            undo() = 3 | account(0..3) = 8 99 0 -107
            """);
        Script.run("The owner pays for an inspection (without a paper, too; not for one that is refused)",
            Setups.worn(121), """
            account(0..3) = 8 0 0 -8 | inspect(0, 1) = 0 | account(0..3) = 8 8 0 -16
            inspect(0, 0..1) = NOT_POSSIBLE | inspect(0, 2) = INVALID | account(0..3) = 8 8 0 -16
            """);
    }

    private static void whyItMayNotBeFired() {
        Script.run("Why a boiler may not be fired is the first of these that is so: 2 4 5 6", """
            boiler(10) | inspector(1, 3) | why(0, -1) = 5 | fire(0) = NOT_POSSIBLE
            plan(0, 0, 1) = 0 | why(0, -1) = 4 | fire(0) = NOT_POSSIBLE
            inspect(0, 0) = 9 | why(0, -1) = 4 | fire(0) = NOT_POSSIBLE
            plan(0, 1, 1) = 1 | why(0, -1) = 6 | fire(0) = NOT_POSSIBLE
            press(0, 9) = 10 | why(0, -1) = 0 | count(12) = 1 | fire(0) = 41
            why(0, -1) = 2 | count(12) = 0 | fire(0) = NOT_POSSIBLE
            out(0) = 0 | boilerOf(0, 4) = 0 | why(0, -1) = 0 | fire(0) = 41
            pass(1) = 1 | why(0, -1) = 4 | pass(1) = 0 | why(0, -1) = 0
            """);
        Script.run("2 it is under steam already (in the last week of its paper)", """
            boiler(10) | inspector(0, 3) | inspect(0, 0) = 10 | fire(0) = 53 | pass(52) = 0 | why(0, -1) = 2
            fire(0) = NOT_POSSIBLE | pass(1) = 1 | why(0, -1) = 5 | fire(0) = NOT_POSSIBLE
            """);
    }

    private static void reasonRepairBeforeOthers() {
        Script.run("1 it is in repair; 3 a repair is asked for (ahead of 4, 5 and 6)", Setups.worn(1), """
            why(0, -1) = 0 | plan(0, 2, 5) = 6 | why(0, -1) = 4 | set(0, 0) = 120
            inspect(0, 0) = 0 | why(0, -1) = 3 | fire(0) = NOT_POSSIBLE
            repair(0) = 1 | boilerOf(0, 6) = 1 | why(0, -1) = 1 | fire(0) = NOT_POSSIBLE
            pass(1) = 0 | why(0, -1) = 4 | pass(3) = 0 | why(0, -1) = 4 | pass(1) = 0 | why(0, -1) = 5
            """);
        Script.run("3 a repair is asked for (without a shutdown)", Setups.worn(91), """
            press(0, 40) = 1 | inspect(0, 1) = 0 | why(0, -1) = 3 | fire(0) = NOT_POSSIBLE | pass(60) = 0
            why(0, -1) = 3
            """);
        Script.run("1 it is in repair (with a paper that holds, above its pressure, in a shutdown)", """
            boiler(10) | inspector(1, 1) | inspect(0, 0) = 9 | why(0, -1) = 6
            repair(0) = 1 | why(0, -1) = 1 | plan(0, 0, 1) = 0 | why(0, -1) = 1 | press(0, 9) = 10 | why(0, -1) = 1
            """);
    }

    private static void reasonShutdown() {
        Script.run("4 a shutdown is planned for the week of now (its first and its last week, those beside them)", """
            boiler(10) | inspector(0, 1) | inspect(0, 0) = 10 | plan(0, 2, 3) = 4
            why(0, -1) = 0 | pass(1) = 0 | why(0, -1) = 0 | pass(1) = 0 | why(0, -1) = 4 | fire(0) = NOT_POSSIBLE
            pass(1) = 0 | why(0, -1) = 4 | pass(1) = 0 | why(0, -1) = 4 | fire(0) = NOT_POSSIBLE
            pass(1) = 0 | why(0, -1) = 0 | fire(0) = 48
            """);
        Script.run("4 a shutdown is planned for the week of now (of one week)", """
            boiler(10) | inspector(0, 1) | inspect(0, 0) = 10 | plan(0, 1, 1) = 1
            why(0, -1) = 0 | pass(1) = 0 | why(0, -1) = 4 | pass(1) = 0 | why(0, -1) = 0
            plan(0, 2, 1) = 2 | why(0, -1) = 4 | pass(1) = 0 | why(0, -1) = 0 | fire(0) = 50
            """);
    }

    private static void reasonNoPaperThatHolds() {
        Script.run("5 it has no paper that holds (in its last week, and in the next one)", """
            boiler(10) | inspector(0, 1) | why(0, -1) = 5 | press(0, 1) = 10 | why(0, -1) = 5
            inspect(0, 0) = 10 | why(0, -1) = 0 | pass(52) = 0 | why(0, -1) = 0
            pass(1) = 0 | why(0, -1) = 5 | fire(0) = NOT_POSSIBLE
            """);
    }

    private static void reasonPressure() {
        Script.run("6 its working pressure is above that of the paper (the same, one more, one less)",
            Setups.HOUSE, """
            inspect(0, 1) = 36 | why(0, -1) = 6 | press(0, 37) = 40 | why(0, -1) = 6 | fire(0) = NOT_POSSIBLE
            press(0, 35) = 37 | why(0, -1) = 0 | press(0, 36) = 35 | why(0, -1) = 0 | fire(0) = 41
            """);
        Script.run("6 its working pressure is above that of the paper (of insurer 0)", Setups.worn(100), """
            inspect(0, 0) = 20 | press(0, 21) = 1 | why(0, -1) = 6 | fire(0) = NOT_POSSIBLE
            press(0, 20) = 21 | why(0, -1) = 0 | fire(0) = 33
            """);
    }
}
