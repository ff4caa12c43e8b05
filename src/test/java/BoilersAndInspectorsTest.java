/** Promises 1 to 4: a new object, boiler, inspector, press. */
public final class BoilersAndInspectorsTest {
    public static void main(String[] args) {
        promise01NewObject();
        promise01ObjectsOfTheirOwn();
        promise02Boiler();
        promise02Errors();
        promise02NumberUsedAgain();
        promise03Inspector();
        promise03Errors();
        promise03NumberUsedAgain();
        promise04Press();
        promise04PressUnderSteam();
        promise04PressOfOthers();
        Check.finish();
    }

    private static void promise01NewObject() {
        Script.run("Creates a house without boilers and inspectors", """
            count(0..14) = 0 | count(15..19) = INVALID | count(20..23) = 120 90 8 15 | count(24) = INVALID
            account(0..3) = 0 | first(0..1) = NOT_FOUND | fault(0..2) = NOT_FOUND | undo() = NOT_POSSIBLE
            boilerOf(0, 0..9) = INVALID | paperOf(0, 0..2) = INVALID | inspectorOf(0, 0..4) = INVALID
            why(0, -1..0) = INVALID | would(0, 0..1, 0) = INVALID | better(0) = INVALID | goesOn(0) = INVALID
            share(0) = INVALID | press(0, 1) = INVALID | inspect(0, 0) = INVALID | fire(0) = INVALID
            out(0) = INVALID
            plan(0, 0, 1) = INVALID | repair(0) = INVALID | clearText() = 0 | pass(1) = 0 | count(2) = 1
            """);
    }

    private static void promise01ObjectsOfTheirOwn() {
        BoilerPapers x = new BoilerPapers();
        BoilerPapers y = new BoilerPapers();
        x.boiler(9);
        x.inspector(0, 1);
        x.set(0, 5);
        x.pass(3);
        x.type('b');
        Check.same("another object", View.of(y) + View.ofText(y), View.of(new BoilerPapers()) + View.ofText(new BoilerPapers()));
        Check.due("undo() of another object", y.undo(), Check.IMPOSSIBLE);
        BoilerPapers z = new BoilerPapers();
        Check.same("a later object", View.of(z) + View.ofText(z), View.of(y) + View.ofText(y));
    }

    private static void promise02Boiler() {
        Script.run("Adds a boiler. Returns its number", """
            boiler(20) = 0 | boilerOf(0, 0..9) = 20 20 0 0 1 - 0 - - 20 | paperOf(0, 0..2) = NOT_FOUND
            pass(7) = 0 | boiler(2) = 1 | boilerOf(1, 0..9) = 2 2 0 0 1 - 0 - - 2 | boilerOf(0, 4) = 8
            """);
    }

    private static void promise02Errors() {
        Script.run("INVALID_ARGUMENT if pressure is out of range; LIMIT_REACHED if there are 8", """
            boiler(1) = INVALID | boiler(41) = INVALID | boiler(0) = INVALID | boiler(-2) = INVALID
            boiler(MIN) = INVALID | boiler(MAX) = INVALID | count(0) = 0
            boiler(2) = 0 | boiler(40) = 1 | 5 x boiler(10) | boiler(10) = 7 | count(0) = 8
            boiler(10) = LIMIT | boiler(2) = LIMIT | boiler(40) = LIMIT | boiler(1) = INVALID | boiler(41) = INVALID
            count(0) = 8 | undo() = 3 | boiler(10) = 7 | boiler(10) = LIMIT
            """);
    }

    private static void promise02NumberUsedAgain() {
        String[] texts = {"b20;i0,0;", "b20;i0,0;f0;w9;o0;w1;i0,1;r0;", "b20;i0,0;f0;w9;", "b20;w3;r0;", "b20;i0,0;f0;"};
        for (String text : texts) {
            Script.run("Adds a boiler (with the number of one that was undone)", """
                inspector(0, 1) = 0 | inspector(1, 1) = 1 | set(1, 0) = 90
                """, "text \"" + text + "\"\n", """
                play() | count(0) = 1 | plan(0, 50, 2) = 51 | undo() = 3 | undo() = 2
                boiler(5) = 0 | boilerOf(0, 0..9) = 5 5 0 0 1 - 0 - - 5 | paperOf(0, 0..2) = NOT_FOUND
            why(0, 0) = 0
                """);
        }
    }

    private static void promise03Inspector() {
        Script.run("Adds an inspector. Returns its number", """
            inspector(1, 2) = 0 | inspectorOf(0, 0..4) = 1 2 2 0 0 | inspector(0, 3) = 1
            inspectorOf(1, 0..4) = 0 3 3 0 0
            pass(1) = 0 | inspector(1, 1) = 2 | inspectorOf(2, 0..4) = 1 1 1 0 0 | inspector(0, 1) = 3
            """);
    }

    private static void promise03Errors() {
        Script.run("INVALID_ARGUMENT if an argument is out of range; LIMIT_REACHED if there are 6", """
            inspector(-1, 1) = INVALID | inspector(2, 1) = INVALID | inspector(MIN, 1) = INVALID
            inspector(MAX, 1) = INVALID | inspector(0, 0) = INVALID | inspector(0, 4) = INVALID
            inspector(1, MIN) = INVALID | inspector(1, MAX) = INVALID | count(1) = 0
            inspector(0, 1) = 0 | inspector(1, 3) = 1 | 3 x inspector(0, 2) | inspector(1, 1) = 5 | count(1) = 6
            inspector(0, 1) = LIMIT | inspector(1, 3) = LIMIT | inspector(2, 1) = INVALID | inspector(0, 4) = INVALID
            count(1) = 6 | undo() = 3 | inspector(0, 1) = 5 | inspector(0, 1) = LIMIT
            """);
    }

    private static void promise03NumberUsedAgain() {
        Script.run("Adds an inspector (with the number of one that was undone)", """
            boiler(10) | inspector(0, 3) = 0 | inspect(0, 0) = 10 | inspect(0, 0) = 10 | undo() = 3 | undo() = 2
            undo() = 1
            inspector(1, 2) = 0 | inspectorOf(0, 0..4) = 1 2 2 0 0
            """);
    }

    private static void promise04Press() {
        Script.run("Sets the working pressure of a boiler. Returns what it was", """
            boiler(12) = 0 | boiler(30) = 1 | press(0, 0) = INVALID | press(0, 13) = INVALID | press(0, 1) = 12
            press(0, 12) = 1 | press(1, 13) = 30 | boilerOf(0..1, 1) = 12 13 | boilerOf(0..1, 0) = 12 30
            """);
    }

    private static void promise04PressUnderSteam() {
        Script.run("NOT_POSSIBLE if the boiler is under steam, and it is above the pressure of its paper", """
            boiler(20) | inspector(1, 1) | inspect(0, 0) = 18 | press(0, 19) = 20 | press(0, 20) = 19
            press(0, 10) = 20
            fire(0) = 41 | press(0, 17) = 10 | press(0, 18) = 17 | press(0, 19) = NOT_POSSIBLE
            press(0, 20) = NOT_POSSIBLE
            press(0, 21) = INVALID | press(0, 0) = INVALID | press(0, 1) = 18 | press(0, 18) = 1
            out(0) = 0 | press(0, 19) = 18 | press(0, 20) = 19
            """);
        Script.run("NOT_POSSIBLE if it is above the pressure of its paper (that of now)", Setups.worn(100), """
            inspect(0, 0) = 20 | fire(0) = 33 | press(0, 20) = 1 | press(0, 21) = NOT_POSSIBLE
            press(0, 40) = NOT_POSSIBLE
            pass(30) = 0 | boilerOf(0, 9) = 2 | press(0, 20) = 20 | press(0, 21) = NOT_POSSIBLE
            """);
    }

    private static void promise04PressOfOthers() {
        Script.run("Sets the working pressure (of one in repair, and of one without a paper)", """
            boiler(12) | press(0, 12) = 12 | press(0, 11) = 12 | repair(0) = 1 | press(0, 3) = 11 | press(0, 12) = 3
            press(0, 13) = INVALID | pass(1) = 0 | boilerOf(0, 1) = 12
            """);
    }
}
