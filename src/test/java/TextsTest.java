/** Promises 24 to 27: type, clearText, fault, play. */
public final class TextsTest {
    public static void main(String[] args) {
        promise24Type();
        promise25ClearText();
        promise26NotOfTheForm();
        promise26EarlierText();
        promise26NotPossible();
        promise26FirstFaultOnly();
        promise26Errors();
        promise27Play();
        promise27OneChange();
        Check.finish();
    }

    private static BoilerPapers house() {
        BoilerPapers x = new BoilerPapers();
        x.boiler(20);
        x.inspector(0, 1);
        x.inspector(1, 3);
        return x;
    }

    private static void promise24Type() {
        BoilerPapers x = new BoilerPapers();
        int[] wrong = {31, 127, -1, 0, Integer.MIN_VALUE, Integer.MAX_VALUE, 65536 + 'b'};
        for (int character : wrong) {
            Check.due("type(" + character + ")", x.type(character), Check.INVALID);
        }
        Check.due("length", x.count(14), 0);
        Check.due("type(32)", x.type(32), 1);
        Check.due("type(126)", x.type(126), 2);
        for (int i = 3; i <= 60; i++) {
            Check.due("type", x.type('x'), i);
        }
        Check.due("type beyond 60", x.type('x'), Check.LIMIT);
        Check.due("type(31) beyond 60", x.type(31), Check.INVALID);
        Check.due("length", x.count(14), 60);
        Check.due("no change", x.count(13), 0);
    }

    private static void promise25ClearText() {
        BoilerPapers x = new BoilerPapers();
        Check.due("clearText()", x.clearText(), 0);
        Check.write(x, "b9;b8");
        Check.due("clearText()", x.clearText(), 5);
        Check.due("length", x.count(14), 0);
        Check.due("fault(0)", x.fault(0), Check.NONE);
        Check.due("clearText()", x.clearText(), 0);
        Check.due("no change", x.count(13), 0);
    }

    private static void fault(String text, int position, int reason, int cause) {
        BoilerPapers x = house();
        Check.write(x, text);
        String before = Check.all(x);
        Check.due("'" + text + "' fault(0)", x.fault(0), position);
        Check.due("'" + text + "' fault(1)", x.fault(1), reason);
        Check.due("'" + text + "' fault(2)", x.fault(2), cause);
        int played = x.play();
        if (position == Check.NONE) {
            Check.due("'" + text + "' plays", played < 0 ? 0 : 1, 1);
        } else {
            Check.due("'" + text + "' play()", played, Check.IMPOSSIBLE);
            Check.same("'" + text + "' changes nothing", Check.all(x), before);
        }
    }

    private static void noFault(String text) {
        fault(text, Check.NONE, Check.NONE, Check.NONE);
    }

    private static void promise26NotOfTheForm() {
        fault("x", 0, 1, 0);
        fault(" b9;", 0, 1, 0);
        fault("B9;", 0, 1, 0);
        fault(";", 0, 1, 0);
        fault("9;", 0, 1, 0);
        fault("p0;", 0, 1, 0);
        fault("b", 0, 1, 1);
        fault("b;", 0, 1, 1);
        fault("b-1;", 0, 1, 1);
        fault("b9", 0, 1, 2);
        fault("b9,", 0, 1, 2);
        fault("b9 ;", 0, 1, 2);
        fault("b10", 0, 1, 3);
        fault("b100;", 0, 1, 3);
        fault("b9:", 0, 1, 2);
        fault("b/;", 0, 1, 1);
        fault("f0,0;", 0, 1, 2);
        fault("i0;", 0, 1, 2);
        fault("i;", 0, 1, 1);
        fault("i,0;", 0, 1, 1);
        fault("i0", 0, 1, 2);
        fault("i0,", 0, 1, 3);
        fault("i0,;", 0, 1, 3);
        fault("i0,0", 0, 1, 4);
        fault("i0,0,", 0, 1, 4);
        fault("i00,00", 0, 1, 6);
        fault("i00,000;", 0, 1, 6);
        fault("i000,0;", 0, 1, 3);
        fault("b9;b", 3, 1, 1);
        fault("b9;;", 3, 1, 0);
        fault("b9; b9;", 3, 1, 0);
    }

    private static void promise26EarlierText() {
        BoilerPapers x = house();
        Check.write(x, "b9;b9;");
        Check.write(x, "b8");
        Check.due("nothing of the text before is read", x.fault(2), 2);
        Check.due("nothing of the text before is played", x.play(), Check.IMPOSSIBLE);
        x.type(';');
        Check.due("play()", x.play(), 1);
        StringBuilder full = new StringBuilder();
        for (int i = 0; i < 14; i++) {
            full.append("w01;");
        }
        Check.write(x, full + "w123");
        Check.due("fault(0) at the end of 60", x.fault(0), 56);
        Check.due("fault(2) at the end of 60", x.fault(2), 3);
        Check.write(x, full + "xxw1");
        Check.due("fault(0)", x.fault(0), 56);
        Check.write(x, full + ";w12");
        Check.due("fault(0)", x.fault(0), 56);
        Check.write(x, full.substring(1) + "w1;w1");
        Check.due("fault(2) of a text without its beginning", x.fault(2), 0);
        Check.write(x, full + "b9;b");
        Check.due("fault(0) of the 60th", x.fault(0), 59);
        Check.due("fault(2) of the 60th", x.fault(2), 1);
    }

    private static void promise26NotPossible() {
        fault("b1;", 0, 2, Check.INVALID);
        fault("b0;", 0, 2, Check.INVALID);
        fault("b41;", 0, 2, Check.INVALID);
        fault("f1;", 0, 2, Check.INVALID);
        fault("f0;", 0, 2, Check.IMPOSSIBLE);
        fault("o0;", 0, 2, Check.IMPOSSIBLE);
        fault("w0;", 0, 2, Check.INVALID);
        fault("w61;", 0, 2, Check.INVALID);
        fault("i0,2;", 0, 2, Check.INVALID);
        fault("i1,0;", 0, 2, Check.INVALID);
        fault("i0,0;i0,0;", 5, 2, Check.IMPOSSIBLE);
        fault("r0;r0;", 3, 2, Check.IMPOSSIBLE);
        fault("b9;b9;b9;b9;b9;b9;b9;b9;", 21, 2, Check.LIMIT);
        noFault("b9;b9;b9;b9;b9;b9;b9;");
        noFault("i0,0;w1;i0,0;f00;w01;o0;r0;");
        noFault("i00,01;");
        noFault("b02;b40;w60;");
        BoilerPapers x = house();
        for (int i = 0; i < 166; i++) {
            x.pass(60);
        }
        Check.write(x, "w39;w1;");
        Check.due("fault(0) past week 9999", x.fault(0), 4);
        Check.due("fault(1) past week 9999", x.fault(1), 2);
        Check.due("fault(2) past week 9999", x.fault(2), Check.LIMIT);
    }

    private static void promise26FirstFaultOnly() {
        fault("i0,0;f0;f0;x", 8, 2, Check.IMPOSSIBLE);
        fault("x;f0;", 0, 1, 0);
        fault("f0;x", 0, 2, Check.IMPOSSIBLE);
        fault("b9;f1;", 3, 2, Check.IMPOSSIBLE);
        fault("i0,0;f0;w53;o0;", 12, 2, Check.IMPOSSIBLE);
        noFault("i0,0;f0;w52;o0;");
    }

    private static void promise26Errors() {
        BoilerPapers x = house();
        int[] wrong = {-1, 3, Integer.MIN_VALUE, Integer.MAX_VALUE};
        for (int what : wrong) {
            Check.due("fault(" + what + ") of no text", x.fault(what), Check.INVALID);
        }
        for (int what = 0; what < 3; what++) {
            Check.due("fault(" + what + ") of no text", x.fault(what), Check.NONE);
        }
        Check.write(x, "x");
        for (int what : wrong) {
            Check.due("fault(" + what + ")", x.fault(what), Check.INVALID);
        }
        Check.write(x, "b9;");
        Check.due("fault(0) of a text without one", x.fault(0), Check.NONE);
        Check.due("fault does no orders", x.count(0), 1);
    }

    private static void promise27Play() {
        BoilerPapers x = house();
        BoilerPapers y = house();
        Check.write(x, "i0,0;f0;w12;o0;w1;i0,1;b07;r0;w02;");
        Check.due("play()", x.play(), 9);
        y.inspect(0, 0);
        y.fire(0);
        y.pass(12);
        y.out(0);
        y.pass(1);
        y.inspect(0, 1);
        y.boiler(7);
        y.repair(0);
        y.pass(2);
        Check.same("play and the calls", Check.all(x), Check.all(y));
        Check.due("the text stays", x.count(14), 34);
        Check.due("play() again", x.play(), Check.IMPOSSIBLE);
        Check.write(x, "w60;w60;w60;w60;w60;w60;w60;w60;w60;w60;w60;w60;w60;w60;w60;");
        Check.due("play() of a full text", x.play(), 15);
        Check.due("week", x.count(2), 15 + 900);
    }

    private static void promise27OneChange() {
        BoilerPapers x = new BoilerPapers();
        Check.due("play() of no orders", x.play(), 0);
        Check.due("it is a change", x.count(13), 1);
        Check.write(x, "b9;b8;b7;");
        Check.due("play()", x.play(), 3);
        Check.due("one change", x.count(13), 2);
        Check.due("play() again", x.play(), 3);
        Check.due("boilers", x.count(0), 6);
        Check.due("play() a third time", x.play(), Check.IMPOSSIBLE);
        Check.due("states", x.count(13), 3);
        Check.due("boilers", x.count(0), 6);
        Check.due("undo()", x.undo(), 2);
        Check.due("boilers", x.count(0), 3);
        Check.due("the text stays", x.count(14), 9);
    }
}
