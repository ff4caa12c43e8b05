/** Promises 17 to 23: would, better, first, goesOn, share, count, undo. */
public final class WhatWouldBeTest {
    public static void main(String[] args) {
        promise17Would();
        promise17WhateverKeepsIt();
        promise17PressureOfOne();
        promise18BetterByLastWeek();
        promise18OnlyOneSuch();
        promise19First();
        promise20GoesOn();
        promise21Share();
        promise22Sets();
        promise22Numbers();
        promise23UndoOfEachChange();
        promise23FourStates();
        Check.finish();
    }

    /** A boiler for 40 fired for some weeks at a working pressure, then put out. */
    private static BoilerPapers worn(int weeks, int pressure) {
        BoilerPapers x = new BoilerPapers();
        x.boiler(40);
        x.inspector(0, 3);
        x.inspector(1, 3);
        x.inspect(0, 0);
        x.press(0, pressure);
        x.fire(0);
        x.pass(weeks);
        x.out(0);
        x.press(0, 1);
        return x;
    }

    private static void promise17Would() {
        BoilerPapers x = worn(19, 40);
        x.set(0, 95);
        x.set(1, 95);
        Check.due("wear", x.boilerOf(0, 2), 95);
        Check.due("would(0, 0, 0)", x.would(0, 0, 0), 21);
        Check.due("would(0, 0, 1)", x.would(0, 0, 1), 19 + 33);
        Check.due("would(0, 1, 0)", x.would(0, 1, 0), 18);
        Check.due("would(0, 1, 1)", x.would(0, 1, 1), 19 + 40);
        x.set(0, 94);
        x.set(1, 94);
        for (int insurer = 0; insurer < 2; insurer++) {
            Check.due("would, none given", x.would(0, insurer, 0), 0);
            Check.due("would, none given", x.would(0, insurer, 1), Check.NONE);
        }
        int[][] wrong = {{1, 0, 0}, {-1, 0, 0}, {0, 2, 0}, {0, -1, 0}, {0, 0, 2}, {0, 0, -1}, {0, 2, 1},
            {0, Integer.MAX_VALUE, 0}, {0, 0, Integer.MIN_VALUE}};
        for (int[] three : wrong) {
            String call = "would(" + three[0] + ", " + three[1] + ", " + three[2] + ")";
            Check.due(call, x.would(three[0], three[1], three[2]), Check.INVALID);
        }
    }

    private static void promise17WhateverKeepsIt() {
        BoilerPapers x = worn(4, 20);
        Check.due("with 0 cold weeks", x.would(0, 0, 0), 37);
        x.fire(0);
        Check.due("under steam", x.would(0, 0, 1), 4 + 50);
        x.out(0);
        x.pass(1);
        x.set(0, 0);
        x.inspect(0, 0);
        x.set(0, 12);
        Check.due("a repair asked for", x.would(0, 0, 0), 37);
        x.repair(0);
        Check.due("in repair", x.would(0, 1, 0), 33);
        Check.due("in repair", x.would(0, 1, 1), 5 + 40);
        Check.due("its paper is as it was", x.paperOf(0, 0), Check.NONE);
    }

    private static void promise17PressureOfOne() {
        BoilerPapers x = new BoilerPapers();
        x.boiler(2);
        x.inspector(0, 1);
        x.inspect(0, 0);
        x.fire(0);
        x.pass(5);
        Check.due("would(0, 0, 0)", x.would(0, 0, 0), 1);
        Check.due("would(0, 0, 1)", x.would(0, 0, 1), 5 + 51);
        Check.due("would(0, 1, 0)", x.would(0, 1, 0), 0);
        Check.due("would(0, 1, 1)", x.would(0, 1, 1), Check.NONE);
    }

    private static void promise18BetterByLastWeek() {
        BoilerPapers x = worn(12, 40);
        Check.due("wear", x.boilerOf(0, 2), 60);
        Check.due("last week of 0", x.would(0, 0, 1), 52);
        Check.due("last week of 1", x.would(0, 1, 1), 52);
        Check.due("the same last week: the greater pressure", x.better(0), 0);
        BoilerPapers y = worn(13, 40);
        Check.due("wear 65: 39 weeks and 40", y.better(0), 1);
        y.press(0, 24);
        Check.due("pressure 27 and 24, working 24", y.better(0), 1);
        y.press(0, 25);
        Check.due("pressure 27 and 24, working 25", y.better(0), 0);
        y.press(0, 28);
        Check.due("pressure 27 and 24, working 28", y.better(0), Check.NONE);
        Check.due("better(1)", y.better(1), Check.INVALID);
        Check.due("better(-1)", y.better(-1), Check.INVALID);
        BoilerPapers z = worn(11, 40);
        Check.due("wear 55: 41 weeks and 40", z.better(0), 0);
    }

    private static void promise18OnlyOneSuch() {
        BoilerPapers x = worn(4, 40);
        x.set(0, 19);
        Check.due("wear 20, only 1 gives one", x.better(0), 1);
        x.set(1, 19);
        Check.due("none gives one", x.better(0), Check.NONE);
        x.set(0, 20);
        Check.due("only 0 gives one", x.better(0), 0);
        x.press(0, 36);
        Check.due("only 0 gives one, just that", x.better(0), 0);
        x.press(0, 37);
        Check.due("only 0 gives one, less than that", x.better(0), Check.NONE);
        x.boiler(2);
        Check.due("a new one", x.better(1), 0);
    }

    private static void promise19First() {
        BoilerPapers x = new BoilerPapers();
        for (int i = 0; i < 4; i++) {
            x.boiler(10);
            x.press(i, 5);
        }
        x.inspector(0, 3);
        x.inspector(1, 3);
        x.inspect(0, 0);
        x.inspect(1, 1);
        x.inspect(2, 1);
        x.inspect(3, 1);
        Check.due("first(0), none under steam", x.first(0), Check.NONE);
        Check.due("first(1), none under steam", x.first(1), Check.NONE);
        Check.due("first(2), none under steam", x.first(2), Check.INVALID);
        x.fire(0);
        Check.due("first(0)", x.first(0), 0);
        Check.due("first(1)", x.first(1), 52);
        x.fire(3);
        Check.due("first(0)", x.first(0), 3);
        x.fire(2);
        Check.due("of several the lowest", x.first(0), 2);
        Check.due("first(1)", x.first(1), 40);
        x.plan(0, 5, 1);
        Check.due("a shutdown does not matter", x.first(0), 2);
        int[] wrong = {-1, 2, Integer.MIN_VALUE, Integer.MAX_VALUE};
        for (int what : wrong) {
            Check.due("first(" + what + ")", x.first(what), Check.INVALID);
        }
    }

    private static void promise20GoesOn() {
        BoilerPapers x = new BoilerPapers();
        x.boiler(10);
        x.inspector(0, 1);
        Check.due("goesOn of a cold one", x.goesOn(0), Check.IMPOSSIBLE);
        Check.due("goesOn(1)", x.goesOn(1), Check.INVALID);
        Check.due("goesOn(-1)", x.goesOn(-1), Check.INVALID);
        x.inspect(0, 0);
        x.fire(0);
        Check.due("by its paper", x.goesOn(0), 53);
        x.plan(0, 52, 1);
        Check.due("by its shutdown", x.goesOn(0), 52);
        x.plan(0, 53, 1);
        Check.due("by both", x.goesOn(0), 53);
        x.plan(0, 60, 1);
        Check.due("the paper comes first", x.goesOn(0), 53);
        x.pass(50);
        Check.due("50 weeks later", x.goesOn(0), 3);
        x.plan(0, 52, 3);
        Check.due("50 weeks later by its shutdown", x.goesOn(0), 2);
        x.plan(0, 53, 3);
        x.pass(2);
        Check.due("the last week", x.goesOn(0), 1);
        x.pass(1);
        Check.due("goesOn when it is out", x.goesOn(0), Check.IMPOSSIBLE);
        x.repair(0);
        Check.due("goesOn in repair", x.goesOn(0), Check.IMPOSSIBLE);
    }

    private static void promise21Share() {
        for (int built = 2; built <= 40; built++) {
            BoilerPapers x = new BoilerPapers();
            x.inspector(0, 1);
            x.boiler(built);
            x.inspect(0, 0);
            x.fire(0);
            for (int week = 0; week < 53; week++) {
                float due = (float) x.boilerOf(0, 9) / (float) built;
                Check.due("share of " + built, x.share(0), Float.floatToIntBits(due));
                x.pass(1);
            }
        }
        BoilerPapers y = new BoilerPapers();
        Check.due("share(0)", y.share(0), Check.INVALID);
        y.boiler(2);
        Check.due("share(-1)", y.share(-1), Check.INVALID);
        Check.due("share of a new one", y.share(0), 0x3f800000);
    }

    private static void promise22Sets() {
        BoilerPapers x = new BoilerPapers();
        for (int i = 0; i < 8; i++) {
            x.boiler(10);
        }
        x.inspector(0, 3);
        x.inspector(0, 3);
        x.inspect(7, 0);
        x.inspect(5, 0);
        x.inspect(2, 0);
        x.inspect(0, 1);
        x.fire(7);
        x.fire(0);
        x.repair(3);
        x.repair(5);
        Check.due("count(3)", x.count(3), 129);
        Check.due("count(4)", x.count(4), 40);
        Check.due("count(5)", x.count(5), 0);
        Check.due("count(6)", x.count(6), 165);
        Check.due("count(12)", x.count(12), 4);
        x.pass(1);
        x.out(7);
        x.pass(1);
        x.set(0, 0);
        x.inspect(7, 0);
        Check.due("count(5)", x.count(5), 128);
        Check.due("count(4)", x.count(4), 0);
        Check.due("count(6)", x.count(6), 5);
        x.repair(7);
        Check.due("count(5) in repair", x.count(5), 128);
    }

    private static void promise22Numbers() {
        BoilerPapers x = worn(20, 40);
        Check.due("count(0)", x.count(0), 1);
        Check.due("count(1)", x.count(1), 2);
        Check.due("count(2)", x.count(2), 20);
        x.pass(1);
        x.inspect(0, 0);
        x.inspect(0, 1);
        x.repair(0);
        Check.due("count(7)", x.count(7), 0);
        Check.due("count(8)", x.count(8), 3);
        Check.due("count(9)", x.count(9), 2);
        Check.due("count(10)", x.count(10), 0);
        Check.due("count(11)", x.count(11), 11);
        Check.due("count(13)", x.count(13), 4);
        Check.write(x, "abc");
        Check.due("count(14)", x.count(14), 3);
        int[] settings = {5, 6, 7, 8};
        for (int what = 0; what < 4; what++) {
            x.set(what, settings[what]);
            Check.due("count of a setting", x.count(20 + what), settings[what]);
        }
        int[] wrong = {-1, 15, 16, 17, 18, 19, 24, Integer.MIN_VALUE, Integer.MAX_VALUE};
        for (int what : wrong) {
            Check.due("count(" + what + ")", x.count(what), Check.INVALID);
        }
    }

    private static void undone(String change, BoilerPapers x, Check.Call made) {
        String before = Check.all(x);
        int states = x.count(13);
        made.on(x);
        Check.due("states after " + change, x.count(13), states + 1);
        Check.due("undo of " + change, x.undo(), states);
        Check.same("what was before " + change, Check.all(x), before);
    }

    private static void promise23UndoOfEachChange() {
        BoilerPapers x = worn(20, 40);
        x.pass(1);
        x.undo();
        x.undo();
        undone("press", x, y -> y.press(0, 3));
        undone("press as it was", x, y -> y.press(0, y.boilerOf(0, 1)));
        undone("boiler", x, y -> y.boiler(5));
        undone("inspector", x, y -> y.inspector(1, 2));
        undone("plan", x, y -> y.plan(0, 30, 2));
        undone("repair", x, y -> y.repair(0));
        undone("fire", x, y -> y.fire(0));
        undone("pass", x, y -> y.pass(60));
        for (int what = 0; what < 4; what++) {
            final int w = what;
            undone("set", x, y -> y.set(w, 33));
        }
        x.undo();
        undone("out", x, y -> y.out(0));
        Check.write(x, "o0;w1;i0,1;r0;b9;");
        undone("play", x, BoilerPapers::play);
        Check.due("the text stays", x.count(14), 17);
        Check.write(x, "o0;w1;");
        x.play();
        undone("inspect without paper", x, y -> y.inspect(0, 1));
        undone("inspect", x, y -> y.inspect(0, 0));
    }

    private static void promise23FourStates() {
        BoilerPapers x = new BoilerPapers();
        for (int i = 1; i <= 7; i++) {
            x.set(2, i);
            Check.due("states", x.count(13), Math.min(i, 4));
        }
        x.fire(0);
        x.type('b');
        x.clearText();
        Check.due("an error or a text is no change", x.count(13), 4);
        for (int i = 3; i >= 0; i--) {
            Check.due("undo()", x.undo(), i);
            Check.due("setting 2", x.count(22), 3 + i);
        }
        Check.due("undo() of none", x.undo(), Check.IMPOSSIBLE);
        Check.due("setting 2", x.count(22), 3);
        x.set(2, 50);
        x.set(2, 51);
        Check.due("undo()", x.undo(), 1);
        x.set(2, 52);
        Check.due("undo()", x.undo(), 1);
        Check.due("setting 2", x.count(22), 50);
        Check.due("undo()", x.undo(), 0);
        Check.due("setting 2", x.count(22), 3);
    }
}
