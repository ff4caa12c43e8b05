/** Promises 24 to 27: type, clearText, fault, play. The form of the orders is in TermsOfTextsTest. */
public final class TextsTest {
    public static void main(String[] args) {
        promise24Type();
        promise24EachCharacter();
        promise24Limit();
        promise25ClearText();
        promise26Fault();
        promise26Errors();
        promise26FaultDoesNothing();
        promise27Play();
        promise27PlayIsTheCalls();
        promise27OneChange();
        promise27NotPossible();
        Check.finish();
    }

    private static void promise24Type() {
        Script.run("character: 32 to 126; INVALID_ARGUMENT if character is out of range", """
            type(31) = INVALID | type(127) = INVALID | type(-1) = INVALID | type(0) = INVALID | type(MIN) = INVALID
            type(MAX) = INVALID | type(65634) = INVALID | type(128) = INVALID | type(354) = INVALID
            type(-158) = INVALID
            count(14) = 0 | type(32) = 1 | type(126) = 2 | type(33) = 3 | type(125) = 4 | type(31) = INVALID
            type(127) = INVALID | count(14) = 4 | count(13) = 0
            """);
    }

    private static void promise24EachCharacter() {
        Script.run("Appends a character to the text. Returns the length of the text", """
            text "b2"
            type(59) = 3 | fault(0) = NOT_FOUND | play() = 1 | boilerOf(0, 0) = 2 | type(102) = 4
            fault(0..2) = 3 1 1
            type(48) = 5 | fault(0..2) = 3 1 2 | type(59) = 6 | fault(0..2) = 3 2 NOT_POSSIBLE
            """);
        for (int first = 32; first <= 126; first += 60) {
            BoilerPapers x = new BoilerPapers();
            for (int c = first; c < first + 60 && c <= 126; c++) {
                Check.due("type(" + c + ")", x.type(c), c - first + 1);
            }
        }
    }

    private static void promise24Limit() {
        Script.run("LIMIT_REACHED if it has 60 characters", """
            59 x type(98) | type(59) = 60 | type(59) = LIMIT | type(32) = LIMIT | type(126) = LIMIT
            type(31) = INVALID
            type(127) = INVALID | count(14) = 60 | boiler(10) = 0 | undo() = 0 | count(14) = 60
            clearText() = 60 | type(59) = 1
            """);
    }

    private static void promise25ClearText() {
        Script.run("Empties the text. Returns the length it had", """
            clearText() = 0 | clearText() = 0 | type(98) = 1 | clearText() = 1 | clearText() = 0 | count(14) = 0
            text "b9;b8"
            fault(0) = 3 | clearText() = 5 | count(14) = 0 | fault(0..2) = NOT_FOUND | play() = 0 | count(0) = 0
            60 x type(120) | clearText() = 60 | clearText() = 0 | type(32) = 1
            """);
    }

    private static void promise26Fault() {
        Script.run("0: its position; 1: its reason; 2: its cause; NOT_FOUND if the text has no fault (also if it is empty)",
            """
            fault(0..2) = NOT_FOUND | boiler(10) | inspector(0, 1) | fault(0..2) = NOT_FOUND
            text "i0,0;f0;w53;o0;"
            fault(0..2) = 12 2 NOT_POSSIBLE
            text "i0,0;f0;w52;o0;"
            fault(0..2) = NOT_FOUND
            text "i0,0;f0;w52;o0"
            fault(0..2) = 12 1 2
            text "i0,0;f0;w52;r0;o0"
            fault(0..2) = 12 2 NOT_POSSIBLE
            """);
    }

    private static void promise26Errors() {
        Script.run("fault: INVALID_ARGUMENT if what is out of range", """
            fault(-1) = INVALID | fault(3) = INVALID | fault(MIN) = INVALID | fault(MAX) = INVALID
            text "x"
            fault(-1) = INVALID | fault(3) = INVALID | fault(MIN) = INVALID | fault(MAX) = INVALID
            fault(0..2) = 0 1 0
            text "b9;"
            fault(-1) = INVALID | fault(3) = INVALID | fault(MIN) = INVALID | fault(MAX) = INVALID
            fault(0..2) = NOT_FOUND
            """);
    }

    private static void promise26FaultDoesNothing() {
        Script.run("Tells about the fault of the text (and does none of its orders)", Setups.worn(20), """
            text "i0,0;f0;w2;o0;r0;b9;f0;"
            fault(0) = 20 | fault(1) = 2 | fault(2) = NOT_POSSIBLE | boilerOf(0, 3) = 0 | count(0) = 1
            count(2) = 5
            text "i0,0;f0;w2;o0;r0;b9;"
            fault(0..2) = NOT_FOUND | boilerOf(0, 3) = 0 | count(0) = 1 | count(2) = 5 | inspectorOf(0, 2) = 3
            count(13) = 4
            """);
    }

    private static void promise27Play() {
        Script.run("Does all orders of the text, which stays. Returns how many there are in it", """
            boiler(20) | inspector(0, 1) | inspector(1, 3)
            text "i0,0;f0;w12;o0;w1;i0,1;b07;r0;w02;"
            play() = 9 | count(14) = 34 | count(2) = 15 | count(0) = 2 | boilerOf(0, 0..9) = 20 20 36 2 - 2 0 - - 16
            boilerOf(1, 0..9) = 7 7 0 0 3 - 0 - - 7 | account(0..3) = 8 8 60 -76 | count(13) = 4
            play() = NOT_POSSIBLE | fault(0..2) = 0 2 NOT_POSSIBLE
            """);
        Script.run("Returns how many there are in it (of a text of 60 characters)", """
            text "w60;w60;w60;w60;w60;w60;w60;w60;w60;w60;w60;w60;w60;w60;w60;"
            play() = 15 | count(2) = 900 | play() = 15 | count(2) = 1800 | count(13) = 2 | undo() = 1
            count(2) = 900
            text "w1;w1;w1;w1;w1;w1;w1;w1;w1;w1;w1;w1;w1;w1;w1;w1;w1;w1;w1;w1;"
            play() = 20 | count(2) = 920 | count(14) = 60
            """);
    }

    private static void promise27PlayIsTheCalls() {
        String text = "i0,1;f0;w40;o0;w1;i0,0;f0;w60;r0;b9;i1,1;f1;w1;o1;r1;";
        String[] calls = {"inspect 0 1", "fire 0", "pass 40", "out 0", "pass 1", "inspect 0 0", "fire 0", "pass 60",
            "repair 0", "boiler 9", "inspect 1 1", "fire 1", "pass 1", "out 1", "repair 1"};
        BoilerPapers played = new BoilerPapers();
        BoilerPapers called = new BoilerPapers();
        for (BoilerPapers x : new BoilerPapers[] {played, called}) {
            x.boiler(40);
            x.inspector(0, 1);
            x.inspector(0, 3);
            x.press(0, 5);
        }
        for (int i = 0; i < text.length(); i++) {
            played.type(text.charAt(i));
        }
        Check.due("play of '" + text + "'", played.play(), calls.length);
        for (String call : calls) {
            String[] words = call.split(" ");
            int one = Integer.parseInt(words[1]);
            int other = words.length > 2 ? Integer.parseInt(words[2]) : 0;
            Check.due(call, Check.isError(new Call(words[0], one, other).on(called)) ? 1 : 0, 0);
        }
        Check.same("play and the calls", View.of(played), View.of(called));
    }

    private static void promise27OneChange() {
        Script.run("They are one change, also if there are none", """
            play() = 0 | count(13) = 1 | play() = 0 | count(13) = 2 | undo() = 1 | undo() = 0
            undo() = NOT_POSSIBLE
            text "b9;b8;b7;"
            play() = 3 | count(13) = 1 | count(0) = 3 | play() = 3 | count(13) = 2 | count(0) = 6
            play() = NOT_POSSIBLE | count(13) = 2 | count(0) = 6 | undo() = 1 | count(0) = 3 | count(14) = 9
            undo() = 0
            count(0) = 0 | undo() = NOT_POSSIBLE | clearText() = 9 | 5 x play() = 0 | count(13) = 4
            """);
    }

    private static void promise27NotPossible() {
        Script.run("NOT_POSSIBLE if it has a fault (and none of its orders is done)", Setups.worn(20), """
            text "x"
            play() = NOT_POSSIBLE
            text "b9"
            play() = NOT_POSSIBLE | count(0) = 1
            text "b9;b9;b9;b9;b9;b9;b9;b9;"
            play() = NOT_POSSIBLE | count(0) = 1 | fault(0..2) = 21 2 LIMIT
            text "i0,0;f0;w60;o0;"
            play() = NOT_POSSIBLE | count(2) = 5 | boilerOf(0, 3) = 0 | count(13) = 4 | undo() = 3
            """);
    }
}
