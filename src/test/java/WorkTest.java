/** Promises 5 to 11: inspect, fire, out, plan, repair, pass, set. */
public final class WorkTest {
    public static void main(String[] args) {
        promise05Inspect();
        promise05NotPossible();
        promise06Fire();
        promise06NotPossible();
        promise07Out();
        promise07NotPossible();
        promise08Plan();
        promise08From();
        promise08Weeks();
        promise08UnderSteam();
        promise09Repair();
        promise10Pass();
        promise10Weeks();
        promise10Limit();
        promise11Set();
        promise11Errors();
        Check.finish();
    }

    private static void promise05Inspect() {
        Script.run("Returns the pressure of the paper, 0 if none is given", """
            boiler(37) | inspector(0, 3) | inspector(1, 3)
            inspect(0, 1) = 33 | paperOf(0, 0..2) = 1 33 40 | inspect(0, 0) = 37 | paperOf(0, 0..2) = 0 37 52
            account(0..3) = 8 8 0 -16 | inspectorOf(0..1, 2) = 2 | inspectorOf(0..1, 3) = 1
            inspectorOf(0..1, 4) = 1
            boilerOf(0, 0..9) = 37 37 0 0 1 - 0 - - 37
            """);
        Script.run("Returns 0 if none is given", Setups.worn(100), """
            set(2, 5) = 8 | set(0, 99) = 120 | inspect(0, 0) = 0 | paperOf(0, 0..2) = NOT_FOUND | boilerOf(0, 6) = 1
            inspectorOf(0, 2..4) = 2 2 1 | account(0..3) = 13 0 0 -13 | undo() = 3
            set(0, 100) = 99 | inspect(0, 0) = 20 | paperOf(0, 0..2) = 0 20 53 | boilerOf(0, 6) = 0
            inspectorOf(0, 2..4) = 2 2 2 | account(0..3) = 13 0 0 -13
            """);
    }

    private static void promise05NotPossible() {
        Script.run("INVALID_ARGUMENT; NOT_POSSIBLE if it cannot be inspected (each of the reasons)", """
            boiler(10) | boiler(10) | inspector(0, 1) | inspector(0, 3)
            inspect(2, 0) = INVALID | inspect(-1, 0) = INVALID | inspect(0, 2) = INVALID | inspect(0, -1) = INVALID
            inspect(MIN, MAX) = INVALID | inspect(0, 0) = 10 | why(1, 0) = 5 | inspect(1, 0) = NOT_POSSIBLE
            fire(0) = 53 | why(0, 1) = 2 | inspect(0, 1) = NOT_POSSIBLE | pass(1) = 0 | out(0) = 2
            why(0, 1) = 3 | inspect(0, 1) = NOT_POSSIBLE | pass(1) = 0 | set(0, 1) = 120
            inspect(0, 1) = 0 | why(0, 1) = 4 | inspect(0, 1) = NOT_POSSIBLE | repair(0) = 1
            why(0, 1) = 1 | inspect(0, 1) = NOT_POSSIBLE | inspect(0, 2) = INVALID
            """);
    }

    private static void promise06Fire() {
        Script.run("Fires a boiler: it is under steam then. Returns for how many weeks its paper holds, that of now too",
            """
            boiler(10) | inspector(0, 1) | inspect(0, 0) = 10
            fire(0) = 53 | boilerOf(0, 3) = 1 | count(3) = 1 | undo() = 3
            pass(1) = 0 | fire(0) = 52 | undo() = 3 | pass(50) = 0 | fire(0) = 2 | undo() = 3 | pass(1) = 0
            fire(0) = 1
            undo() = 3 | pass(1) = 0 | fire(0) = NOT_POSSIBLE
            """);
        Script.run("Returns for how many weeks its paper holds (that of insurer 1)", """
            boiler(10) | inspector(1, 1) | inspect(0, 0) = 9 | press(0, 9) = 10 | fire(0) = 41 | out(0) = 0
            pass(40) = 0
            fire(0) = 1 | boilerOf(0, 0..9) = 10 9 0 1 - - 0 - - 10
            """);
    }

    private static void promise06NotPossible() {
        Script.run("INVALID_ARGUMENT; NOT_POSSIBLE if it may not be fired (each of the reasons)", """
            boiler(10) | inspector(1, 3) | fire(1) = INVALID | fire(-1) = INVALID | fire(MIN) = INVALID
            fire(MAX) = INVALID
            why(0, -1) = 5 | fire(0) = NOT_POSSIBLE | inspect(0, 0) = 9 | why(0, -1) = 6 | fire(0) = NOT_POSSIBLE
            press(0, 9) = 10 | plan(0, 0, 1) = 0 | why(0, -1) = 4 | fire(0) = NOT_POSSIBLE
            pass(1) = 0 | fire(0) = 40 | why(0, -1) = 2 | fire(0) = NOT_POSSIBLE | pass(1) = 0 | out(0) = 1
            pass(1) = 0
            set(1, 0) = 90 | inspect(0, 0) = 0 | why(0, -1) = 3 | fire(0) = NOT_POSSIBLE
            repair(0) = 1 | why(0, -1) = 1 | fire(0) = NOT_POSSIBLE
            """);
    }

    private static void promise07Out() {
        Script.run("Puts a boiler out: it is cold then, with 0 cold weeks. Returns its wear", """
            boiler(30) | inspector(0, 1) | inspect(0, 0) = 30 | fire(0) = 53 | out(0) = 0 | boilerOf(0, 3..4) = 0 0
            fire(0) = 53 | pass(3) = 0 | out(0) = 12 | boilerOf(0, 3..4) = 0 0 | paperOf(0, 0..2) = 0 30 52
            count(10) = 0 | count(3) = 0 | pass(1) = 0 | boilerOf(0, 4) = 1
            """);
    }

    private static void promise07NotPossible() {
        Script.run("INVALID_ARGUMENT; NOT_POSSIBLE if it is not under steam", """
            boiler(30) | inspector(0, 1) | out(0) = NOT_POSSIBLE | out(1) = INVALID | out(-1) = INVALID
            out(MIN) = INVALID
            out(MAX) = INVALID | inspect(0, 0) = 30 | out(0) = NOT_POSSIBLE | fire(0) = 53 | out(0) = 0
            out(0) = NOT_POSSIBLE
            repair(0) = 1 | out(0) = NOT_POSSIBLE | pass(1) = 0 | out(0) = NOT_POSSIBLE
            """);
    }

    private static void promise08Plan() {
        Script.run("Plans a shutdown of a boiler, in place of the one that there was. Returns the last week", """
            boiler(10) | boiler(10) | plan(0, 0, 1) = 0 | boilerOf(0, 7..8) = 0 0 | plan(0, 3, 20) = 22
            boilerOf(0, 7..8) = 3 22 | plan(0, 9999, 20) = 10018 | boilerOf(0, 7..8) = 9999 10018
            plan(1, 2, 2) = 3 | boilerOf(1, 7..8) = 2 3 | boilerOf(0, 7..8) = 9999 10018
            """);
    }

    private static void promise08From() {
        Script.run("from: the first week, that of now or later, 9999 at most", """
            boiler(10) | plan(0, -1, 1) = INVALID | plan(0, MIN, 1) = INVALID | plan(0, MAX, 1) = INVALID
            plan(0, MAX, 20) = INVALID
            plan(0, 0, 1) = 0 | plan(0, 9999, 1) = 9999 | plan(0, 10000, 1) = INVALID | plan(0, 9998, 2) = 9999
            pass(5) = 0 | plan(0, 4, 1) = INVALID | plan(0, 4, 20) = INVALID | plan(0, 5, 1) = 5 | plan(0, 6, 1) = 6
            plan(0, 0, 20) = INVALID | plan(-1, 6, 1) = INVALID | plan(1, 6, 1) = INVALID
            """);
    }

    private static void promise08Weeks() {
        Script.run("weeks: 1 to 20", """
            boiler(10) | plan(0, 7, 0) = INVALID | plan(0, 7, 21) = INVALID | plan(0, 7, -1) = INVALID
            plan(0, 7, MIN) = INVALID
            plan(0, 7, MAX) = INVALID | boilerOf(0, 7) = NOT_FOUND | plan(0, 7, 1) = 7 | plan(0, 7, 20) = 26
            plan(0, 7, 21) = INVALID | plan(0, 7, 0) = INVALID | boilerOf(0, 7..8) = 7 26 | plan(0, 7, 19) = 25
            """);
    }

    private static void promise08UnderSteam() {
        Script.run("NOT_POSSIBLE if it begins in the week of now and the boiler is under steam", """
            boiler(10) | inspector(0, 1) | inspect(0, 0) = 10 | pass(2) = 0 | fire(0) = 51
            plan(0, 2, 1) = NOT_POSSIBLE | plan(0, 2, 20) = NOT_POSSIBLE | plan(0, 2, 0) = INVALID
            plan(0, 1, 5) = INVALID
            plan(0, 3, 1) = 3 | plan(0, 2, 1) = NOT_POSSIBLE | boilerOf(0, 7..8) = 3 3 | plan(0, 9999, 1) = 9999
            out(0) = 0 | plan(0, 2, 1) = 2 | plan(0, 3, 1) = 3 | repair(0) = 1 | plan(0, 2, 2) = 3
            """);
    }

    private static void promise09Repair() {
        Script.run("Lets a boiler go to repair. Returns how many weeks it takes; NOT_POSSIBLE if it is not cold", """
            boiler(10) | inspector(0, 3) | repair(1) = INVALID | repair(-1) = INVALID | repair(MIN) = INVALID
            repair(MAX) = INVALID
            repair(0) = 1 | boilerOf(0, 0..9) = 10 10 0 2 - 1 0 - - 10 | account(0..3) = 0 0 15 -15
            repair(0) = NOT_POSSIBLE
            pass(2) = 0 | inspect(0, 0) = 10 | fire(0) = 53 | repair(0) = NOT_POSSIBLE | pass(5) = 0 | out(0) = 10
            repair(0) = 2 | boilerOf(0, 0..9) = 10 10 10 2 - 2 0 - - 9 | paperOf(0, 0..2) = 0 10 54 | count(11) = 3
            account(0..3) = 8 0 45 -53
            """);
        Script.run("Lets a boiler go to repair (that is asked for; with 0 cold weeks; in a shutdown)",
            Setups.worn(121), """
            inspect(0, 0) = 0 | repair(0) = 13 | undo() = 3 | undo() = 2 | plan(0, 26, 3) = 28 | repair(0) = 13
            undo() = 3
            fire(0) = NOT_POSSIBLE | plan(0, 40, 1) = 40 | fire(0) = 27 | out(0) = 121 | boilerOf(0, 4) = 0
            repair(0) = 13
            """);
    }

    private static void promise10Pass() {
        Script.run("Lets weeks pass. Returns how many boilers are put out in them", """
            boiler(10) | boiler(10) | inspector(0, 3) | inspector(1, 3) | press(1, 9) = 10 | inspect(0, 0) = 10
            inspect(1, 1) = 9
            pass(1) = 0 | fire(0) = 52 | fire(1) = 40 | pass(39) = 0 | count(3) = 3 | pass(1) = 1 | count(3) = 1
            count(10) = 1
            boilerOf(1, 2..4) = 40 0 0 | pass(11) = 0 | pass(1) = 1 | count(10) = 2 | pass(60) = 0 | count(10) = 2
            undo() = 3 | undo() = 2 | count(10) = 1 | pass(60) = 1 | count(10) = 2
            """);
    }

    private static void promise10Weeks() {
        Script.run("weeks: 1 to 60; INVALID_ARGUMENT if weeks is out of range", """
            boiler(10) | pass(0) = INVALID | pass(61) = INVALID | pass(-1) = INVALID | pass(MIN) = INVALID
            pass(MAX) = INVALID
            count(2) = 0 | pass(1) = 0 | count(2) = 1 | pass(60) = 0 | count(2) = 61 | pass(59) = 0 | count(2) = 120
            pass(0) = INVALID | pass(61) = INVALID | count(2) = 120 | boilerOf(0, 4) = 121
            """);
    }

    private static void promise10Limit() {
        Script.run("LIMIT_REACHED if the week would be above 9999", Setups.HOUSE, """
            166 x pass(60) = 0 | pass(40) = LIMIT | pass(60) = LIMIT | pass(61) = INVALID | count(2) = 9960
            pass(39) = 0 | count(2) = 9999 | pass(1) = LIMIT | pass(60) = LIMIT | pass(0) = INVALID
            pass(61) = INVALID | count(2) = 9999 | undo() = 3 | pass(38) = 0 | pass(2) = LIMIT | pass(1) = 0
            """);
    }

    private static void promise11Set() {
        Script.run("Sets a setting. Returns what it was", """
            set(0, 1) = 120 | set(0, 2) = 1 | set(1, 3) = 90 | set(1, 4) = 3 | set(2, 5) = 8 | set(2, 6) = 5
            set(3, 7) = 15
            set(3, 8) = 7 | count(20..23) = 2 4 6 8 | undo() = 3 | count(20..23) = 2 4 6 7
            """);
    }

    private static void promise11Errors() {
        Script.run("set: INVALID_ARGUMENT if an argument is out of range", """
            set(-1, 0) = INVALID | set(4, 0) = INVALID | set(MIN, 0) = INVALID | set(MAX, 0) = INVALID
            set(0..3, -1) = INVALID | set(0..1, 201) = INVALID | set(2..3, 100) = INVALID
            set(0..3, MIN) = INVALID | set(0..3, MAX) = INVALID | count(20..23) = 120 90 8 15
            set(0..3, 0) = 120 90 8 15 | set(0..1, 200) = 0 | set(2..3, 99) = 0 | count(20..23) = 200 200 99 99
            """);
    }
}
