/** Promises 1 to 4: a new object, boiler, inspector, press. */
public final class BoilersAndInspectorsTest {
    public static void main(String[] args) {
        promise01NewObject();
        promise02Boiler();
        promise02LimitAndUndo();
        promise02RowUsedAgain();
        promise03Inspector();
        promise03RowUsedAgain();
        promise04Press();
        promise04PressUnderSteam();
        Check.finish();
    }

    private static void promise01NewObject() {
        BoilerPapers x = new BoilerPapers();
        for (int what = 0; what <= 14; what++) {
            Check.due("new count(" + what + ")", x.count(what), 0);
        }
        Check.due("new count(20)", x.count(20), 120);
        Check.due("new count(21)", x.count(21), 90);
        Check.due("new count(22)", x.count(22), 8);
        Check.due("new count(23)", x.count(23), 15);
        for (int whose = 0; whose < 4; whose++) {
            Check.due("new account(" + whose + ")", x.account(whose), 0);
        }
        Check.due("new undo()", x.undo(), Check.IMPOSSIBLE);
        Check.due("new fault(0)", x.fault(0), Check.NONE);
        BoilerPapers y = new BoilerPapers();
        y.boiler(9);
        Check.due("boilers of another object", x.count(0), 0);
    }

    private static void promise02Boiler() {
        BoilerPapers x = new BoilerPapers();
        int[] wrong = {1, 41, 0, -1, Integer.MIN_VALUE, Integer.MAX_VALUE};
        for (int pressure : wrong) {
            Check.refused("boiler(" + pressure + ")", x, Check.INVALID, y -> y.boiler(pressure));
        }
        Check.due("boiler(2)", x.boiler(2), 0);
        Check.due("boiler(40)", x.boiler(40), 1);
        int[] due = {40, 40, 0, 0, 1, Check.NONE, 0, Check.NONE, Check.NONE, 40};
        for (int what = 0; what < due.length; what++) {
            Check.due("new boiler, boilerOf(1, " + what + ")", x.boilerOf(1, what), due[what]);
        }
        Check.due("new boiler, paperOf(1, 0)", x.paperOf(1, 0), Check.NONE);
    }

    private static void promise02LimitAndUndo() {
        BoilerPapers x = new BoilerPapers();
        for (int i = 0; i < 8; i++) {
            Check.due("boiler " + i, x.boiler(10 + i), i);
        }
        Check.refused("the ninth boiler", x, Check.LIMIT, y -> y.boiler(10));
        Check.refused("boiler(41) as the ninth", x, Check.INVALID, y -> y.boiler(41));
        x.repair(7);
        x.plan(7, 3, 4);
        Check.due("undo()", x.undo(), 3);
        Check.due("undo()", x.undo(), 2);
        Check.due("undo()", x.undo(), 1);
        Check.due("boiler(5) after undo", x.boiler(5), 7);
        int[] due = {5, 5, 0, 0, 1, Check.NONE, 0, Check.NONE, Check.NONE, 5};
        for (int what = 0; what < due.length; what++) {
            Check.due("boilerOf(7, " + what + ") of a row used again", x.boilerOf(7, what), due[what]);
        }
        Check.due("boilerOf(6, 0)", x.boilerOf(6, 0), 16);
    }

    private static void promise02RowUsedAgain() {
        String[] texts = {"b20;i0,0;", "b20;i0,0;f0;w9;o0;w1;i0,1;r0;", "b20;i0,0;f0;w9;", "b20;w3;r0;"};
        for (String text : texts) {
            BoilerPapers x = new BoilerPapers();
            x.inspector(0, 1);
            x.inspector(1, 1);
            x.set(1, 0);
            Check.write(x, text);
            x.play();
            Check.due("'" + text + "' played", x.count(0), 1);
            x.undo();
            Check.due("boiler(5) after undo", x.boiler(5), 0);
            int[] due = {5, 5, 0, 0, 1, Check.NONE, 0, Check.NONE, Check.NONE, 5};
            for (int what = 0; what < due.length; what++) {
                Check.due("boilerOf(0, " + what + ") after '" + text + "'", x.boilerOf(0, what), due[what]);
            }
            Check.due("paperOf(0, 2) after '" + text + "'", x.paperOf(0, 2), Check.NONE);
            Check.due("why(0, 0) after '" + text + "'", x.why(0, 0), 0);
        }
    }

    private static void promise03Inspector() {
        BoilerPapers x = new BoilerPapers();
        int[][] wrong = {{-1, 1}, {2, 1}, {0, 0}, {1, 4}, {0, -1}, {Integer.MAX_VALUE, 1}, {1, Integer.MIN_VALUE}};
        for (int[] pair : wrong) {
            String call = "inspector(" + pair[0] + ", " + pair[1] + ")";
            Check.refused(call, x, Check.INVALID, y -> y.inspector(pair[0], pair[1]));
        }
        for (int i = 0; i < 6; i++) {
            Check.due("inspector " + i, x.inspector(i % 2, 1 + i % 3), i);
            Check.due("its insurer", x.inspectorOf(i, 0), i % 2);
            Check.due("its inspections in a week", x.inspectorOf(i, 1), 1 + i % 3);
            Check.due("its inspections left", x.inspectorOf(i, 2), 1 + i % 3);
            Check.due("its inspections so far", x.inspectorOf(i, 3), 0);
            Check.due("its papers so far", x.inspectorOf(i, 4), 0);
        }
        Check.refused("the seventh inspector", x, Check.LIMIT, y -> y.inspector(0, 1));
        Check.refused("inspector(2, 1) as the seventh", x, Check.INVALID, y -> y.inspector(2, 1));
    }

    private static void promise03RowUsedAgain() {
        BoilerPapers x = new BoilerPapers();
        x.boiler(10);
        x.inspector(0, 3);
        x.inspect(0, 0);
        x.inspect(0, 0);
        x.undo();
        x.undo();
        x.undo();
        Check.due("inspector(1, 2) after undo", x.inspector(1, 2), 0);
        int[] due = {1, 2, 2, 0, 0};
        for (int what = 0; what < due.length; what++) {
            Check.due("inspectorOf(0, " + what + ") of a row used again", x.inspectorOf(0, what), due[what]);
        }
    }

    private static void promise04Press() {
        BoilerPapers x = new BoilerPapers();
        Check.refused("press(0, 1) without boilers", x, Check.INVALID, y -> y.press(0, 1));
        x.boiler(12);
        Check.refused("press(0, 0)", x, Check.INVALID, y -> y.press(0, 0));
        Check.refused("press(0, 13)", x, Check.INVALID, y -> y.press(0, 13));
        Check.refused("press(-1, 5)", x, Check.INVALID, y -> y.press(-1, 5));
        Check.refused("press(1, 5)", x, Check.INVALID, y -> y.press(1, 5));
        Check.due("press(0, 1)", x.press(0, 1), 12);
        Check.due("press(0, 12)", x.press(0, 12), 1);
        Check.due("working pressure", x.boilerOf(0, 1), 12);
        x.repair(0);
        Check.due("press(0, 3) in repair", x.press(0, 3), 12);
        Check.due("built for", x.boilerOf(0, 0), 12);
    }

    private static void promise04PressUnderSteam() {
        BoilerPapers x = new BoilerPapers();
        x.boiler(20);
        x.inspector(1, 1);
        x.inspect(0, 0);
        Check.due("press(0, 20) cold, above its paper", x.press(0, 20), 20);
        x.press(0, 10);
        x.fire(0);
        Check.due("press(0, 18), that of its paper", x.press(0, 18), 10);
        Check.refused("press(0, 19) under steam", x, Check.IMPOSSIBLE, y -> y.press(0, 19));
        Check.refused("press(0, 21) under steam", x, Check.INVALID, y -> y.press(0, 21));
        x.out(0);
        Check.due("press(0, 19) when it is out", x.press(0, 19), 18);
    }
}
