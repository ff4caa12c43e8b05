/** Promises 17 to 23: would, better, first, goesOn, share, count, undo. */
public final class WhatWouldBeTest {
    public static void main(String[] args) {
        promise17Would();
        promise17WhateverKeepsIt();
        promise17NoneGiven();
        promise17Errors();
        promise18LaterLastWeek();
        promise18AtLeastTheWorkingPressure();
        promise18OnlyOneGives();
        promise18InAnyCondition();
        promise19First();
        promise19OfSeveralTheLowest();
        promise19Errors();
        promise20GoesOn();
        promise20PaperAndShutdown();
        promise21Share();
        promise21EveryStrength();
        promise22Numbers();
        promise22Sets();
        promise22Errors();
        promise23Undo();
        promise23UndoOfAllThatIsKept();
        Check.finish();
    }

    private static void promise17Would() {
        Script.run("Tells what an inspection of a boiler by an insurer would bring now", Setups.worn(95), """
            set(0, 95) = 120 | set(1, 95) = 90 | would(0, 0, 0..1) = 21 53 | would(0, 1, 0..1) = 18 60
            inspect(0, 0) = 21 | paperOf(0, 0..2) = 0 21 53 | inspect(0, 1) = 18 | paperOf(0, 0..2) = 1 18 60
            """);
        Script.run("Tells what an inspection would bring (of a new one, for the least and the greatest pressure)", """
            boiler(2) | boiler(40) | would(0, 0, 0..1) = 2 52 | would(0, 1, 0..1) = 1 40 | would(1, 0, 0..1) = 40 52
            would(1, 1, 0..1) = 36 40 | pass(1) = 0 | would(1, 0, 0..1) = 40 53 | would(0, 1, 0..1) = 1 41
            """);
    }

    private static void promise17WhateverKeepsIt() {
        Script.run("whatever keeps it from being inspected", """
            boiler(40) | inspector(0, 1) | would(0, 0, 0..1) = 40 52 | inspect(0, 0) = 40 | why(0, 0) = 5
            would(0, 0, 0..1) = 40 52
            press(0, 20) = 40 | fire(0) = 53 | pass(4) = 0 | why(0, 0) = 2 | would(0, 0, 0..1) = 37 54
            would(0, 1, 0..1) = 33 44
            out(0) = 12 | why(0, 0) = 3 | would(0, 0, 0..1) = 37 54 | pass(1) = 0 | set(0, 0) = 120
            inspect(0, 0) = 0
            why(0, 0) = 4 | would(0, 0, 0..1) = 0 - | would(0, 1, 0..1) = 33 45 | set(0, 12) = 0
            would(0, 0, 0..1) = 37 55
            repair(0) = 2 | why(0, 0) = 1 | would(0, 0, 0..1) = 37 55 | would(0, 1, 0..1) = 33 45
            paperOf(0, 0) = NOT_FOUND
            """);
    }

    private static void promise17NoneGiven() {
        Script.run("0: the pressure of the paper, 0 if none would be given; NOT_FOUND for 1 if none would be given",
            Setups.worn(95), """
            set(0, 94) = 120 | set(1, 95) = 90 | would(0, 0, 0..1) = 0 - | would(0, 1, 0..1) = 18 60
            set(0, 95) = 94 | set(1, 94) = 95 | would(0, 0, 0..1) = 21 53 | would(0, 1, 0..1) = 0 -
            """);
        Script.run("0 if none would be given (a pressure of 1, and below)", """
            boiler(2) | inspector(0, 1) | inspect(0, 0) = 2 | would(0, 1, 0..1) = 1 40 | fire(0) = 53 | pass(5) = 0
            would(0, 0, 0..1) = 1 56 | would(0, 1, 0..1) = 0 -
            """);
    }

    private static void promise17Errors() {
        Script.run("would: INVALID_ARGUMENT if an argument is out of range", """
            boiler(10) | would(0, -1, 0) = INVALID | would(0, 2, 0) = INVALID | would(0, 0, -1) = INVALID
            would(0, 0, 2) = INVALID
            would(0, 1, 2) = INVALID | would(1, 0, 0) = INVALID | would(-1, 0, 0) = INVALID
            would(0, MIN, 0) = INVALID
            would(0, MAX, 0) = INVALID | would(0, 0, MIN) = INVALID | would(0, 0, MAX) = INVALID
            would(MIN, 0, 0) = INVALID
            would(MAX, 0, 1) = INVALID | would(1, 2, 2) = INVALID
            """);
    }

    private static void promise18LaterLastWeek() {
        String title = "of both the one whose last week is later, if they are the same the one with the greater pressure";
        int[][] rows = {{0, 0}, {55, 0}, {59, 0}, {60, 0}, {61, 0}, {64, 0}, {65, 1}, {69, 1}, {90, 1}};
        for (int[] row : rows) {
            Script.run(title + " (wear " + row[0] + ")", Setups.worn(row[0]), "better(0) = " + row[1]);
        }
        Script.run(title + " (the last weeks)", Setups.worn(59), "would(0, 0, 1) = 57 | would(0, 1, 1) = 56");
        Script.run(title + " (the last weeks)", Setups.worn(60), "would(0, 0, 1) = 53 | would(0, 1, 1) = 53");
        Script.run(title + " (the last weeks)", Setups.worn(64), "would(0, 0, 1) = 57 | would(0, 1, 1) = 57");
        Script.run(title + " (the last weeks)", Setups.worn(65), "would(0, 0, 1) = 53 | would(0, 1, 1) = 54");
    }

    private static void promise18AtLeastTheWorkingPressure() {
        String title = "the one whose paper would have a pressure of at least the working pressure; NOT_FOUND if neither is such";
        Script.run(title, Setups.worn(65), """
            would(0, 0, 0) = 27 | would(0, 1, 0) = 24 | better(0) = 1 | press(0, 23) = 1 | better(0) = 1
            press(0, 24) = 23 | better(0) = 1 | press(0, 25) = 24 | better(0) = 0 | press(0, 27) = 25
            better(0) = 0
            press(0, 28) = 27 | better(0) = NOT_FOUND | press(0, 40) = 28 | better(0) = NOT_FOUND
            """);
        Script.run(title, Setups.worn(60), """
            would(0, 0, 0) = 28 | would(0, 1, 0) = 25 | press(0, 25) = 1 | better(0) = 0 | press(0, 26) = 25
            better(0) = 0
            press(0, 28) = 26 | better(0) = 0 | press(0, 29) = 28 | better(0) = NOT_FOUND
            """);
        Script.run(title, """
            boiler(2) | boiler(40) | better(0) = 0 | better(1) = 0 | press(0, 1) = 2 | better(0) = 0
            better(2) = INVALID
            better(-1) = INVALID | better(MIN) = INVALID | better(MAX) = INVALID
            """);
        Script.run(title, Setups.worn(1),
            "press(0, 39) = 1 | better(0) = 0 | press(0, 40) = 39 | better(0) = NOT_FOUND");
    }

    private static void promise18OnlyOneGives() {
        String title = "the one whose paper would have a pressure (of which the other gives none)";
        Script.run(title, Setups.worn(20), """
            better(0) = 0 | set(0, 19) = 120 | better(0) = 1 | press(0, 32) = 1 | better(0) = 1
            press(0, 33) = 32 | better(0) = NOT_FOUND | set(0, 20) = 19 | better(0) = 0 | press(0, 32) = 33
            set(1, 19) = 90
            better(0) = 0 | press(0, 36) = 32 | better(0) = 0 | press(0, 37) = 36 | better(0) = NOT_FOUND
            press(0, 1) = 37 | set(0, 19) = 20 | better(0) = NOT_FOUND
            """);
        Script.run(title, Setups.worn(91),
            "better(0) = 0 | press(0, 21) = 1 | better(0) = 0 | press(0, 22) = 21 | better(0) = -");
        Script.run(title, Setups.worn(121), "better(0) = NOT_FOUND | set(1, 121) = 90 | better(0) = 1");
        Script.run(title, Setups.worn(200), "set(0, 200) = 120 | set(1, 200) = 90 | better(0) = NOT_FOUND");
        Script.run(title, Setups.worn(195),
            "set(0, 200) = 120 | set(1, 200) = 90 | better(0) = 0 | press(0, 2) = 1 | better(0) = -");
    }

    private static void promise18InAnyCondition() {
        Script.run("Finds the better insurer for a boiler (under steam, in repair, with a repair asked for)",
            Setups.worn(65), """
            fire(0) = 39 | better(0) = 1 | out(0) = 65 | better(0) = 1 | pass(1) = 0 | set(0, 0) = 120
            inspect(0, 0) = 0
            set(0, 120) = 0 | better(0) = 1 | repair(0) = 7 | better(0) = 1 | pass(7) = 0 | better(0) = 0
            """);
    }

    private static void promise19First() {
        Script.run("Finds the boiler under steam whose paper runs out first", """
            4 x boiler(10) | press(0..3, 5) = 10 | inspector(0, 3) | inspector(1, 3)
            inspect(0, 0) = 10 | inspect(1..3, 1) = 9 | first(0..1) = NOT_FOUND
            fire(0) = 53 | first(0..1) = 0 52 | fire(3) = 41 | first(0..1) = 3 40 | plan(0, 5, 1) = 5
            first(0..1) = 3 40
            out(3) = 0 | first(0..1) = 0 52 | repair(3) = 1 | first(0..1) = 0 52 | out(0) = 0
            first(0..1) = NOT_FOUND
            """);
    }

    private static void promise19OfSeveralTheLowest() {
        Script.run("0: the boiler, of several the lowest; 1: its last week", """
            8 x boiler(10) | press(0..7, 5) = 10 | 3 x inspector(0, 3) | inspect(0..2, 0) = 10
            inspect(3..5, 1) = 10
            inspect(6..7, 2) = 10 | fire(7) = 53 | first(0..1) = 7 52 | fire(5) = 53 | first(0..1) = 5 52
            fire(6) = 53
            first(0..1) = 5 52 | fire(0) = 53 | first(0..1) = 0 52 | out(0) = 0 | first(0..1) = 5 52 | pass(52) = 0
            first(0..1) = 5 52 | pass(1) = 3 | first(0..1) = NOT_FOUND
            """);
        Script.run("whose paper runs out first (one week sooner, of a later boiler)", """
            boiler(10) | boiler(10) | boiler(10) | inspector(0, 3) | pass(1) = 0 | inspect(0, 0) = 10 | fire(0) = 53
            undo() = 3 | undo() = 2 | undo() = 1 | inspect(1, 0) = 10 | pass(1) = 0 | inspect(0, 0) = 10
            inspect(2, 0) = 10
            fire(0) = 53 | first(0..1) = 0 53 | fire(1) = 52 | first(0..1) = 1 52 | fire(2) = 53
            first(0..1) = 1 52
            """);
    }

    private static void promise19Errors() {
        Script.run("INVALID_ARGUMENT if what is out of range; NOT_FOUND if none is under steam", """
            first(-1) = INVALID | first(2) = INVALID | first(0..1) = NOT_FOUND | boiler(10)
            first(0..1) = NOT_FOUND
            inspector(0, 1) | inspect(0, 0) = 10 | first(0..1) = NOT_FOUND | fire(0) = 53 | first(-1) = INVALID
            first(2) = INVALID | first(MIN) = INVALID | first(MAX) = INVALID | first(0..1) = 0 52
            """);
    }

    private static void promise20GoesOn() {
        Script.run("Tells how many weeks a boiler under steam could go on: until it is put out", """
            boiler(10) | inspector(0, 1) | goesOn(0) = NOT_POSSIBLE | goesOn(1) = INVALID | goesOn(-1) = INVALID
            goesOn(MIN) = INVALID | goesOn(MAX) = INVALID | inspect(0, 0) = 10 | goesOn(0) = NOT_POSSIBLE
            fire(0) = 53
            goesOn(0) = 53 | pass(52) = 0 | goesOn(0) = 1 | pass(1) = 1 | goesOn(0) = NOT_POSSIBLE | repair(0) = 11
            goesOn(0) = NOT_POSSIBLE
            """);
        Script.run("until it is put out (fired in the last week of its paper; put out by the owner)", """
            boiler(10) | inspector(0, 1) | inspect(0, 0) = 10 | pass(52) = 0 | fire(0) = 1 | goesOn(0) = 1
            out(0) = 0
            goesOn(0) = NOT_POSSIBLE | fire(0) = 1 | plan(0, 60, 1) = 60 | goesOn(0) = 1
            """);
    }

    private static void promise20PaperAndShutdown() {
        int[][] rows = {{1, 1}, {2, 2}, {51, 51}, {52, 52}, {53, 53}, {54, 53}, {9999, 53}};
        for (int[] row : rows) {
            int weeks = row[1];
            String before = weeks == 1 ? "" : "pass(" + (weeks - 1) + ") = 0 | goesOn(0) = 1 | ";
            Script.run("until it is put out (a paper to week 52, a shutdown in week " + row[0] + ")",
                "boiler(10) | inspector(0, 1) | inspect(0, 0) = 10 | fire(0) = 53 | plan(0, " + row[0] + ", 1) = " + row[0]
                + " | goesOn(0) = " + weeks + " | " + before + "boilerOf(0, 3) = 1 | pass(1) = 1 | boilerOf(0, 3) = 0");
        }
        Script.run("until it is put out (some weeks later)", """
            boiler(10) | inspector(0, 1) | inspect(0, 0) = 10 | fire(0) = 53 | pass(50) = 0 | goesOn(0) = 3
            plan(0, 52, 3) = 54
            goesOn(0) = 2 | plan(0, 51, 3) = 53 | goesOn(0) = 1 | plan(0, 53, 3) = 55 | goesOn(0) = 3
            plan(0, 54, 1) = 54 | goesOn(0) = 3
            """);
    }

    private static void promise21Share() {
        Script.run("as a float: its strength, as a float, divided by what it is built for, as a float", """
            share(0) = INVALID | boiler(2) | boiler(40) | share(0) = 1065353216 | share(1) = 1065353216
            share(2) = INVALID
            share(-1) = INVALID | share(MIN) = INVALID | share(MAX) = INVALID
            """);
        int[][] rows = {{1, 39}, {100, 20}, {150, 10}, {180, 4}, {195, 1}, {196, 0}, {200, 0}};
        for (int[] row : rows) {
            Script.run("Returns the bits of the float (wear " + row[0] + ")", Setups.worn(row[0]),
                "boilerOf(0, 9) = " + row[1] + " | share(0) = " + Float.floatToRawIntBits((float) row[1] / (float) 40));
        }
    }

    /** Each boiler is fired until nothing of its strength is left. */
    private static void promise21EveryStrength() {
        for (int built = 2; built <= 40; built++) {
            BoilerPapers x = new BoilerPapers();
            x.boiler(built);
            x.inspector(0, 1);
            x.set(0, 200);
            int growth = 1 + built / 10;
            int wear = 0;
            int calls = 3;
            while (built * (200 - wear) / 200 > 0) {
                x.inspect(0, 0);
                x.press(0, built * (200 - wear) / 200);
                x.fire(0);
                x.press(0, built);
                growth = 1 + x.boilerOf(0, 1) / 10;
                calls += 7;
                for (int weeks = x.goesOn(0); weeks > 1 && built * (200 - wear) / 200 > 0; weeks--) {
                    x.pass(1);
                    wear = Math.min(200, wear + growth);
                    int strength = built * (200 - wear) / 200;
                    int due = Float.floatToRawIntBits((float) strength / (float) built);
                    Check.due("share of strength " + strength + " of " + built, x.share(0), due);
                    calls += 2;
                }
                x.out(0);
                x.pass(1);
                calls += 2;
            }
            Check.due("share of strength 0 of " + built, x.share(0), 0);
            Check.due("calls of an object beyond " + Traces.MOST_CALLS, Math.max(Traces.MOST_CALLS, calls), Traces.MOST_CALLS);
        }
    }

    private static void promise22Numbers() {
        Script.run("Returns a number (0 to 14, 20 to 23)", Setups.worn(100), """
            count(0..2) = 1 2 21 | count(7..11) = 0 1 1 0 0 | count(13..14) = 4 0 | inspect(0, 0) = 20
            inspect(0, 1) = 0
            count(3..12) = 0 0 1 0 0 3 2 0 0 0 | repair(0) = 11 | count(3..12) = 0 1 1 0 0 3 2 0 11 0
            type(98) = 1 | type(57) = 2 | count(13..14) = 4 2 | pass(11) = 0
            count(2..12) = 32 0 0 0 0 0 3 2 0 11 0
            set(0, 5) = 120 | set(1, 6) = 90 | set(2, 7) = 8 | set(3, 9) = 15 | count(20..23) = 5 6 7 9
            """);
        Script.run("10: boilers that were put out by a week so far (not those by the call of out)", """
            boiler(10) | inspector(0, 1) | inspect(0, 0) = 10 | fire(0) = 53 | out(0) = 0 | count(10) = 0
            fire(0) = 53
            plan(0, 1, 1) = 1 | pass(1) = 1 | count(10) = 1 | pass(1) = 0 | fire(0) = 51 | pass(60) = 1
            count(10) = 2
            undo() = 3 | count(10) = 1
            """);
        Script.run("11: weeks of repairs that were paid so far (also for nothing, and before they pass)",
            Setups.worn(39), """
            set(3, 0) = 15 | repair(0) = 4 | count(11) = 4 | pass(4) = 0 | count(11) = 4 | repair(0) = 1
            count(11) = 5
            """);
        Script.run("13: states in the history; 14: the length of the text", """
            count(13..14) = 0 | type(32) = 1 | count(13..14) = 0 1 | 5 x boiler(10) | count(13..14) = 4 1
            undo() = 3
            count(13..14) = 3 1 | 59 x type(126) | count(13..14) = 3 60 | clearText() = 60 | count(13..14) = 3 0
            """);
    }

    private static void promise22Sets() {
        Script.run("3: boilers under steam; 4: in repair; 5: a repair is asked; 6: with a paper; 12: may be fired",
            """
            8 x boiler(10) | inspector(0, 3) | inspector(0, 3) | inspect(7, 0) = 10 | inspect(5, 0) = 10
            inspect(2, 0) = 10
            inspect(0, 1) = 10 | fire(7) = 53 | fire(0) = 53 | repair(3) = 1 | repair(5) = 1
            count(3..6) = 129 40 0 165 | count(12) = 4 | plan(2, 0, 1) = 0 | count(12) = 0 | pass(1) = 0
            count(3..6) = 129 0 0 133 | count(12) = 4 | out(7) = 2 | count(12) = 132 | pass(1) = 0 | set(0, 0) = 120
            inspect(7, 0) = 0 | count(3..6) = 1 0 128 5 | count(12) = 4 | repair(7) = 1 | count(3..6) = 1 128 128 5
            inspect(2, 0) = 10 | press(2, 9) = 10 | count(12) = 4 | pass(1) = 0 | count(3..6) = 1 0 0 5
            """);
        Script.run("6: boilers with a paper; 12: boilers that may be fired now (the edge of the pressure)", """
            8 x boiler(10) | 3 x inspector(1, 3) | inspect(0..2, 0) = 9 | inspect(3..5, 1) = 9
            inspect(6..7, 2) = 9
            count(6) = 255 | count(12) = 0 | press(7, 9) = 10 | count(12) = 128 | press(0, 9) = 10 | count(12) = 129
            press(3, 8) = 10 | count(12) = 137
            """);
    }

    private static void promise22Errors() {
        Script.run("count: INVALID_ARGUMENT if what is out of range", Setups.HOUSE, """
            count(-1) = INVALID | count(15..19) = INVALID | count(24) = INVALID | count(25) = INVALID
            count(-20) = INVALID
            count(MIN) = INVALID | count(MAX) = INVALID | count(14) = 0 | count(20) = 120 | count(23) = 15
            """);
    }

    private static void promise23Undo() {
        Script.run("Restores the latest state of the history, which is removed from it", """
            undo() = NOT_POSSIBLE | boiler(10) = 0 | boiler(11) = 1 | undo() = 1 | count(0) = 1
            boilerOf(0, 0) = 10
            undo() = 0 | count(0) = 0 | undo() = NOT_POSSIBLE
            boiler(12) = 0 | boilerOf(0, 0) = 12 | count(13) = 1 | undo() = 0 | undo() = NOT_POSSIBLE
            count(13) = 0
            """);
        Script.run("Returns the number of states that are left in the history; NOT_POSSIBLE if it is empty", """
            6 x set(2, 5) | undo() = 3 | undo() = 2 | undo() = 1 | undo() = 0 | undo() = NOT_POSSIBLE
            undo() = NOT_POSSIBLE
            set(2, 6) = 5 | undo() = 0 | undo() = NOT_POSSIBLE
            """);
    }

    private static void promise23UndoOfAllThatIsKept() {
        Script.run("Restores the latest state (of a week in which much happens)", """
            4 x boiler(40) | inspector(0, 3) | inspector(1, 3) | press(0..3, 9) = 40 | inspect(0..1, 0) = 40
            inspect(2..3, 1) = 36
            fire(0..2) = 53 53 41 | plan(0, 41, 3) = 43 | pass(40) = 0 | repair(3) = 1
            inspect(3, 0) = NOT_POSSIBLE
            boilerOf(0..3, 3) = 1 1 1 2 | paperOf(0..3, 2) = 52 52 40 40 | pass(1) = 2 | boilerOf(0..3, 3) = 0 1 0 0
            paperOf(0..3, 2) = 52 52 - - | boilerOf(0..3, 2) = 41 41 41 0 | count(10) = 2
            boilerOf(0, 7..8) = 41 43
            undo() = 3 | boilerOf(0..3, 3) = 1 1 1 2 | boilerOf(0..3, 2) = 40 40 40 0
            paperOf(0..3, 2) = 52 52 40 40
            count(10) = 0 | count(2) = 40 | boilerOf(3, 5) = 1 | undo() = 2 | boilerOf(3, 3..4) = 0 41
            pass(4) = 2 | count(10) = 2 | boilerOf(0..3, 4) = 3 - 3 45 | boilerOf(0, 7) = NOT_FOUND | undo() = 2
            boilerOf(0, 7) = 41
            """);
    }
}
