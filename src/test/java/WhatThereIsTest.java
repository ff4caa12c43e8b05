/** Promises 12 to 16: boilerOf, paperOf, inspectorOf, why, account. */
public final class WhatThereIsTest {
    public static void main(String[] args) {
        promise12BoilerOf();
        promise13PaperOf();
        promise14InspectorOf();
        promise15WhyNotFired();
        promise15WhyNotInspected();
        promise15Errors();
        promise16Account();
        Check.finish();
    }

    private static BoilerPapers house(int pressure) {
        BoilerPapers x = new BoilerPapers();
        x.boiler(pressure);
        x.inspector(0, 1);
        x.inspector(1, 1);
        return x;
    }

    private static void facts(String when, BoilerPapers x, int... due) {
        for (int what = 0; what < due.length; what++) {
            Check.due(when + ", boilerOf(0, " + what + ")", x.boilerOf(0, what), due[what]);
        }
    }

    private static void promise12BoilerOf() {
        int none = Check.NONE;
        BoilerPapers x = house(21);
        facts("new", x, 21, 21, 0, 0, 1, none, 0, none, none, 21);
        x.inspect(0, 0);
        x.press(0, 20);
        x.plan(0, 30, 5);
        x.fire(0);
        x.pass(7);
        facts("under steam", x, 21, 20, 21, 1, none, none, 0, 30, 34, 18);
        x.out(0);
        facts("put out", x, 21, 20, 21, 0, 0, none, 0, 30, 34, 18);
        x.set(0, 20);
        x.pass(1);
        x.inspect(0, 0);
        facts("repair asked for", x, 21, 20, 21, 0, 1, none, 1, 30, 34, 18);
        x.repair(0);
        facts("in repair", x, 21, 20, 21, 2, none, 3, 1, 30, 34, 18);
        x.pass(3);
        facts("repaired", x, 21, 20, 5, 0, 0, none, 0, 30, 34, 20);
        int[][] wrong = {{0, 10}, {0, -1}, {1, 0}, {-1, 0}, {1, 4}, {0, Integer.MAX_VALUE}, {Integer.MIN_VALUE, 0}};
        for (int[] pair : wrong) {
            Check.due("boilerOf(" + pair[0] + ", " + pair[1] + ")", x.boilerOf(pair[0], pair[1]), Check.INVALID);
        }
    }

    private static void promise13PaperOf() {
        BoilerPapers x = house(20);
        for (int what = 0; what < 3; what++) {
            Check.due("paperOf without paper", x.paperOf(0, what), Check.NONE);
        }
        int[][] wrong = {{0, 3}, {0, -1}, {1, 0}, {-1, 0}, {0, Integer.MIN_VALUE}, {Integer.MAX_VALUE, 0}};
        for (int[] pair : wrong) {
            Check.due("paperOf(" + pair[0] + ", " + pair[1] + ")", x.paperOf(pair[0], pair[1]), Check.INVALID);
        }
        x.pass(3);
        x.inspect(0, 1);
        Check.due("paperOf(0, 0)", x.paperOf(0, 0), 1);
        Check.due("paperOf(0, 1)", x.paperOf(0, 1), 18);
        Check.due("paperOf(0, 2)", x.paperOf(0, 2), 43);
        for (int[] pair : wrong) {
            Check.due("paperOf(" + pair[0] + ", " + pair[1] + ")", x.paperOf(pair[0], pair[1]), Check.INVALID);
        }
    }

    private static void promise14InspectorOf() {
        BoilerPapers x = new BoilerPapers();
        Check.due("inspectorOf(0, 0) of none", x.inspectorOf(0, 0), Check.INVALID);
        x.boiler(2);
        x.inspector(0, 3);
        x.inspector(1, 2);
        x.inspect(0, 1);
        x.inspect(0, 1);
        int[] due = {1, 2, 0, 2, 2};
        for (int what = 0; what < 5; what++) {
            Check.due("inspectorOf(1, " + what + ")", x.inspectorOf(1, what), due[what]);
        }
        x.set(1, 0);
        x.press(0, 1);
        x.fire(0);
        x.pass(1);
        x.out(0);
        x.pass(1);
        Check.due("left in another week", x.inspectorOf(1, 2), 2);
        x.inspect(0, 1);
        int[] later = {1, 2, 1, 3, 2};
        for (int what = 0; what < 5; what++) {
            Check.due("later inspectorOf(1, " + what + ")", x.inspectorOf(1, what), later[what]);
        }
        int[][] wrong = {{0, 5}, {0, -1}, {2, 0}, {-1, 0}, {0, Integer.MAX_VALUE}, {Integer.MIN_VALUE, 0}};
        for (int[] pair : wrong) {
            String call = "inspectorOf(" + pair[0] + ", " + pair[1] + ")";
            Check.due(call, x.inspectorOf(pair[0], pair[1]), Check.INVALID);
        }
    }

    private static void promise15WhyNotFired() {
        BoilerPapers x = house(10);
        Check.due("no paper", x.why(0, -1), 5);
        x.inspect(0, 1);
        Check.due("above its paper", x.why(0, -1), 6);
        x.press(0, 9);
        Check.due("nothing against it", x.why(0, -1), 0);
        x.plan(0, 0, 2);
        Check.due("a shutdown", x.why(0, -1), 4);
        x.press(0, 10);
        Check.due("a shutdown, above its paper", x.why(0, -1), 4);
        x.plan(0, 1, 2);
        x.press(0, 9);
        Check.due("a shutdown of the next week", x.why(0, -1), 0);
        x.fire(0);
        Check.due("under steam", x.why(0, -1), 2);
        x.pass(1);
        Check.due("put out by the shutdown", x.why(0, -1), 4);
        x.pass(1);
        x.set(0, 0);
        Check.due("no paper by wear", x.inspect(0, 0), 0);
        Check.due("asked for, a shutdown, no paper", x.why(0, -1), 3);
        x.repair(0);
        Check.due("in repair, asked for", x.why(0, -1), 1);
    }

    private static void promise15WhyNotInspected() {
        BoilerPapers x = house(10);
        Check.due("nothing against it", x.why(0, 0), 0);
        x.inspect(0, 0);
        Check.due("done this week", x.why(0, 0), 5);
        Check.due("the other is not", x.why(0, 1), 0);
        x.fire(0);
        Check.due("under steam, done this week", x.why(0, 0), 2);
        x.pass(1);
        Check.due("under steam", x.why(0, 0), 2);
        x.out(0);
        Check.due("cold weeks 0", x.why(0, 0), 3);
        x.pass(1);
        Check.due("cold weeks 1", x.why(0, 0), 0);
        x.set(0, 0);
        x.inspect(0, 0);
        Check.due("asked for, done this week", x.why(0, 0), 4);
        Check.due("asked for", x.why(0, 1), 4);
        x.repair(0);
        Check.due("in repair", x.why(0, 0), 1);
        x.pass(1);
        Check.due("repaired, cold weeks 0", x.why(0, 0), 3);
    }

    private static void promise15Errors() {
        BoilerPapers x = house(10);
        int[][] wrong = {{-1, -1}, {1, -1}, {1, 0}, {0, -2}, {0, 2}, {0, Integer.MIN_VALUE}, {Integer.MAX_VALUE, 0}};
        for (int[] pair : wrong) {
            Check.due("why(" + pair[0] + ", " + pair[1] + ")", x.why(pair[0], pair[1]), Check.INVALID);
        }
    }

    private static void promise16Account() {
        BoilerPapers x = house(10);
        x.inspect(0, 0);
        x.set(2, 99);
        x.inspect(0, 1);
        x.set(3, 50);
        x.repair(0);
        Check.due("account(0)", x.account(0), 8);
        Check.due("account(1)", x.account(1), 99);
        Check.due("account(2)", x.account(2), 50);
        Check.due("account(3)", x.account(3), -157);
        Check.due("count(7)", x.count(7), 0);
        int[] wrong = {-1, 4, Integer.MIN_VALUE, Integer.MAX_VALUE};
        for (int whose : wrong) {
            Check.due("account(" + whose + ")", x.account(whose), Check.INVALID);
        }
    }
}
