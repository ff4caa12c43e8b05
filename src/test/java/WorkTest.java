/** Promises 5 to 11: inspect, fire, out, plan, repair, pass, set. */
public final class WorkTest {
    public static void main(String[] args) {
        promise05Inspect();
        promise05NoPaper();
        promise05PressureBelowOne();
        promise05Errors();
        promise06Fire();
        promise06ReasonsAgainst();
        promise07Out();
        promise08Plan();
        promise08PlanErrors();
        promise09Repair();
        promise10WearAndColdWeeks();
        promise10PapersRunOut();
        promise10Shutdowns();
        promise10RepairEnds();
        promise10RepairEndsBeforePutOut();
        promise10Limits();
        promise11Set();
        Check.finish();
    }

    /** Boiler 0 for the pressure, inspectors 0 and 1 of the insurers 0 and 1, three inspections each. */
    private static BoilerPapers house(int pressure) {
        BoilerPapers x = new BoilerPapers();
        x.boiler(pressure);
        x.inspector(0, 3);
        x.inspector(1, 3);
        return x;
    }

    /** A house whose boiler, for 40, has 20 weeks at 5 a week behind it: wear 100, out, cold weeks 0. */
    private static BoilerPapers worn() {
        BoilerPapers x = house(40);
        x.inspect(0, 0);
        x.fire(0);
        x.pass(20);
        x.out(0);
        return x;
    }

    private static void promise05Inspect() {
        BoilerPapers x = house(37);
        Check.due("inspect by insurer 1", x.inspect(0, 1), 33);
        Check.due("paper's insurer", x.paperOf(0, 0), 1);
        Check.due("paper's pressure", x.paperOf(0, 1), 33);
        Check.due("paper's last week", x.paperOf(0, 2), 40);
        Check.due("inspect by insurer 0", x.inspect(0, 0), 37);
        Check.due("paper's insurer", x.paperOf(0, 0), 0);
        Check.due("paper's last week", x.paperOf(0, 2), 52);
        Check.due("account(0)", x.account(0), 8);
        Check.due("account(1)", x.account(1), 8);
        Check.due("account(3)", x.account(3), -16);
        Check.due("left of inspector 0", x.inspectorOf(0, 2), 2);
        BoilerPapers y = worn();
        Check.due("wear", y.boilerOf(0, 2), 100);
        y.pass(1);
        Check.due("inspect with wear 100", y.inspect(0, 0), 20);
        Check.due("its last week, 21 + 52 - 20", y.paperOf(0, 2), 53);
        y.set(1, 100);
        Check.due("inspect with wear 100 by insurer 1", y.inspect(0, 1), 18);
        Check.due("its last week, 21 + 40", y.paperOf(0, 2), 61);
    }

    private static void promise05NoPaper() {
        BoilerPapers x = worn();
        x.pass(1);
        x.set(2, 5);
        Check.due("paper from before", x.paperOf(0, 1), 40);
        Check.due("inspect, wear 100 above 90", x.inspect(0, 1), 0);
        Check.due("paper is gone", x.paperOf(0, 0), Check.NONE);
        Check.due("repair is asked for", x.boilerOf(0, 6), 1);
        Check.due("inspections", x.inspectorOf(1, 3), 1);
        Check.due("papers", x.inspectorOf(1, 4), 0);
        Check.due("left", x.inspectorOf(1, 2), 2);
        Check.due("account(1)", x.account(1), 5);
        Check.refused("inspect, a repair asked for", x, Check.IMPOSSIBLE, y -> y.inspect(0, 0));
        BoilerPapers z = worn();
        z.pass(1);
        z.set(0, 99);
        Check.due("inspect, wear 100 above 99", z.inspect(0, 0), 0);
        z.undo();
        z.set(0, 100);
        Check.due("inspect, wear 100 as setting 0", z.inspect(0, 0), 20);
    }

    private static void promise05PressureBelowOne() {
        BoilerPapers x = house(2);
        x.press(0, 1);
        x.inspect(0, 1);
        Check.due("fire(0)", x.fire(0), 41);
        x.pass(1);
        x.out(0);
        x.pass(1);
        Check.due("wear", x.boilerOf(0, 2), 1);
        Check.due("strength", x.boilerOf(0, 9), 1);
        Check.due("inspect by insurer 1: 1 * 9 / 10", x.inspect(0, 1), 0);
        Check.due("repair is asked for", x.boilerOf(0, 6), 1);
        x.undo();
        Check.due("inspect by insurer 0", x.inspect(0, 0), 1);
    }

    private static void promise05Errors() {
        BoilerPapers x = house(10);
        x.inspector(0, 1);
        x.boiler(10);
        int[][] wrong = {{-1, 0}, {2, 0}, {0, -1}, {0, 3}, {Integer.MIN_VALUE, 0}, {0, Integer.MAX_VALUE}};
        for (int[] pair : wrong) {
            String call = "inspect(" + pair[0] + ", " + pair[1] + ")";
            Check.refused(call, x, Check.INVALID, y -> y.inspect(pair[0], pair[1]));
        }
        Check.due("inspect(0, 2)", x.inspect(0, 2), 10);
        Check.refused("inspect(1, 2), none left", x, Check.IMPOSSIBLE, y -> y.inspect(1, 2));
        x.pass(1);
        Check.due("inspect(1, 2) in the next week", x.inspect(1, 2), 10);
        x.fire(0);
        Check.refused("inspect under steam", x, Check.IMPOSSIBLE, y -> y.inspect(0, 0));
        Check.refused("inspect under steam by none", x, Check.INVALID, y -> y.inspect(0, 3));
        x.out(0);
        Check.refused("inspect with 0 cold weeks", x, Check.IMPOSSIBLE, y -> y.inspect(0, 0));
        x.repair(0);
        Check.refused("inspect in repair", x, Check.IMPOSSIBLE, y -> y.inspect(0, 0));
    }

    private static void promise06Fire() {
        BoilerPapers x = house(10);
        Check.refused("fire(-1)", x, Check.INVALID, y -> y.fire(-1));
        Check.refused("fire(1)", x, Check.INVALID, y -> y.fire(1));
        Check.refused("fire without paper", x, Check.IMPOSSIBLE, y -> y.fire(0));
        x.inspect(0, 0);
        x.pass(52);
        Check.due("fire in the last week of its paper", x.fire(0), 1);
        Check.due("it is under steam", x.boilerOf(0, 3), 1);
        Check.refused("fire again", x, Check.IMPOSSIBLE, y -> y.fire(0));
        x.undo();
        x.pass(1);
        Check.refused("fire a week later", x, Check.IMPOSSIBLE, y -> y.fire(0));
    }

    private static void promise06ReasonsAgainst() {
        BoilerPapers x = house(10);
        x.inspect(0, 1);
        Check.refused("fire, 10 above 9", x, Check.IMPOSSIBLE, y -> y.fire(0));
        x.press(0, 9);
        x.plan(0, 0, 1);
        Check.refused("fire in a shutdown", x, Check.IMPOSSIBLE, y -> y.fire(0));
        x.plan(0, 1, 1);
        Check.due("fire ahead of a shutdown", x.fire(0), 41);
        x.out(0);
        Check.due("fire with 0 cold weeks", x.fire(0), 41);
        x.out(0);
        x.repair(0);
        Check.refused("fire in repair", x, Check.IMPOSSIBLE, y -> y.fire(0));
    }

    private static void promise07Out() {
        BoilerPapers x = house(30);
        Check.refused("out(0) of a cold one", x, Check.IMPOSSIBLE, y -> y.out(0));
        Check.refused("out(1)", x, Check.INVALID, y -> y.out(1));
        Check.refused("out(-1)", x, Check.INVALID, y -> y.out(-1));
        x.inspect(0, 0);
        x.fire(0);
        x.pass(3);
        Check.due("out(0)", x.out(0), 12);
        Check.due("it is cold", x.boilerOf(0, 3), 0);
        Check.due("its cold weeks", x.boilerOf(0, 4), 0);
        Check.due("its paper stays", x.paperOf(0, 2), 52);
        Check.due("put out by weeks", x.count(10), 0);
        x.repair(0);
        Check.refused("out(0) in repair", x, Check.IMPOSSIBLE, y -> y.out(0));
    }

    private static void promise08Plan() {
        BoilerPapers x = house(10);
        Check.due("plan(0, 3, 20)", x.plan(0, 3, 20), 22);
        Check.due("first week", x.boilerOf(0, 7), 3);
        Check.due("last week", x.boilerOf(0, 8), 22);
        Check.due("plan in its place", x.plan(0, 9999, 20), 10018);
        Check.due("first week", x.boilerOf(0, 7), 9999);
        Check.due("last week", x.boilerOf(0, 8), 10018);
        x.pass(5);
        Check.due("plan(0, 5, 1) of a cold one", x.plan(0, 5, 1), 5);
        x.repair(0);
        Check.due("plan(0, 5, 2) in repair", x.plan(0, 5, 2), 6);
    }

    private static void promise08PlanErrors() {
        BoilerPapers x = house(10);
        x.inspect(0, 0);
        x.pass(2);
        x.fire(0);
        int[][] wrong = {{-1, 3, 1}, {1, 3, 1}, {0, 1, 1}, {0, 10000, 1}, {0, 3, 0}, {0, 3, 21},
            {0, -1, 1}, {0, 2, 21}, {0, Integer.MAX_VALUE, 1}, {0, 2, Integer.MIN_VALUE}};
        for (int[] three : wrong) {
            String call = "plan(" + three[0] + ", " + three[1] + ", " + three[2] + ")";
            Check.refused(call, x, Check.INVALID, y -> y.plan(three[0], three[1], three[2]));
        }
        Check.refused("plan for now under steam", x, Check.IMPOSSIBLE, y -> y.plan(0, 2, 1));
        Check.due("plan for the next week", x.plan(0, 3, 1), 3);
    }

    private static void promise09Repair() {
        BoilerPapers x = house(10);
        Check.refused("repair(1)", x, Check.INVALID, y -> y.repair(1));
        Check.refused("repair(-1)", x, Check.INVALID, y -> y.repair(-1));
        Check.due("repair without wear", x.repair(0), 1);
        Check.due("account(2)", x.account(2), 15);
        Check.due("account(3)", x.account(3), -15);
        Check.refused("repair in repair", x, Check.IMPOSSIBLE, y -> y.repair(0));
        BoilerPapers z = worn();
        z.set(3, 7);
        Check.due("repair with wear 100", z.repair(0), 11);
        Check.due("account(2)", z.account(2), 77);
        Check.due("account(3)", z.account(3), -85);
        Check.due("weeks paid", z.count(11), 11);
        Check.due("it is in repair", z.boilerOf(0, 3), 2);
        Check.due("its end", z.boilerOf(0, 5), 11);
        Check.due("its wear", z.boilerOf(0, 2), 100);
        Check.due("its paper", z.paperOf(0, 1), 40);
        z.undo();
        z.pass(1);
        z.fire(0);
        Check.refused("repair under steam", z, Check.IMPOSSIBLE, y -> y.repair(0));
    }

    private static void promise10WearAndColdWeeks() {
        int[] pressures = {9, 10, 19, 20, 29, 30, 39, 40};
        int[] growth = {1, 2, 2, 3, 3, 4, 4, 5};
        BoilerPapers x = new BoilerPapers();
        for (int i = 0; i < 3; i++) {
            x.inspector(0, 3);
        }
        for (int i = 0; i < 8; i++) {
            x.boiler(40);
            x.inspect(i, i / 3);
            x.press(i, pressures[i]);
            x.fire(i);
        }
        Check.due("pass(1)", x.pass(1), 0);
        for (int i = 0; i < 8; i++) {
            Check.due("wear at " + pressures[i], x.boilerOf(i, 2), growth[i]);
            Check.due("cold weeks under steam", x.boilerOf(i, 4), Check.NONE);
        }
        x.pass(38);
        Check.due("wear after 39 weeks at 40", x.boilerOf(7, 2), 195);
        x.pass(1);
        Check.due("wear after 40 weeks at 40", x.boilerOf(7, 2), 200);
        x.pass(1);
        Check.due("wear is not above 200", x.boilerOf(7, 2), 200);
        Check.due("strength with wear 200", x.boilerOf(7, 9), 0);
        x.out(0);
        x.pass(4);
        Check.due("cold weeks", x.boilerOf(0, 4), 4);
        Check.due("wear of a cold one", x.boilerOf(0, 2), 41);
        x.boiler(2);
        BoilerPapers y = house(10);
        y.pass(5);
        Check.due("cold weeks of a new one, 5 weeks on", y.boilerOf(0, 4), 6);
        Check.due("week", y.count(2), 5);
    }

    private static void promise10PapersRunOut() {
        BoilerPapers x = house(10);
        x.boiler(10);
        x.press(1, 9);
        x.inspect(0, 0);
        x.inspect(1, 1);
        x.fire(0);
        x.fire(1);
        Check.due("pass(40)", x.pass(40), 0);
        Check.due("both under steam", x.count(3), 3);
        Check.due("pass(1)", x.pass(1), 1);
        Check.due("only 0 under steam", x.count(3), 1);
        Check.due("paper is gone", x.paperOf(1, 2), Check.NONE);
        Check.due("cold weeks", x.boilerOf(1, 4), 0);
        Check.due("wear of the last week, too", x.boilerOf(1, 2), 41);
        Check.due("pass(20)", x.pass(20), 1);
        Check.due("cold weeks, week 61 less 53", x.boilerOf(0, 4), 8);
        Check.due("wear, 53 weeks of 2", x.boilerOf(0, 2), 106);
        Check.due("put out by weeks", x.count(10), 2);
        BoilerPapers y = house(10);
        y.inspect(0, 1);
        y.pass(40);
        Check.due("a cold one's paper in its last week", y.paperOf(0, 2), 40);
        y.pass(1);
        Check.due("a cold one's paper is gone", y.paperOf(0, 2), Check.NONE);
        Check.due("none was put out", y.count(10), 0);
    }

    private static void promise10Shutdowns() {
        BoilerPapers x = house(10);
        x.inspect(0, 0);
        x.fire(0);
        x.plan(0, 3, 2);
        Check.due("pass(2)", x.pass(2), 0);
        Check.due("pass(1)", x.pass(1), 1);
        Check.due("it is cold", x.boilerOf(0, 3), 0);
        Check.due("shutdown stays", x.boilerOf(0, 8), 4);
        x.pass(1);
        Check.due("shutdown in its last week", x.boilerOf(0, 7), 3);
        Check.due("why in its last week", x.why(0, -1), 4);
        x.pass(1);
        Check.due("shutdown is gone", x.boilerOf(0, 7), Check.NONE);
        Check.due("shutdown is gone", x.boilerOf(0, 8), Check.NONE);
        Check.due("fire behind it", x.fire(0), 48);
    }

    private static void promise10RepairEnds() {
        BoilerPapers x = worn();
        x.pass(1);
        x.inspect(0, 1);
        x.plan(0, 30, 20);
        x.repair(0);
        x.pass(10);
        Check.due("its end", x.boilerOf(0, 5), 1);
        Check.due("still asked for", x.count(5), 1);
        Check.due("in repair", x.count(4), 1);
        x.pass(1);
        Check.due("it is cold", x.boilerOf(0, 3), 0);
        Check.due("cold weeks", x.boilerOf(0, 4), 0);
        Check.due("wear is a quarter", x.boilerOf(0, 2), 25);
        Check.due("nothing is asked for", x.boilerOf(0, 6), 0);
        Check.due("its shutdown stays", x.boilerOf(0, 7), 30);
        x.pass(2);
        Check.due("cold weeks", x.boilerOf(0, 4), 2);
        BoilerPapers y = house(10);
        y.inspect(0, 0);
        y.repair(0);
        Check.due("paper in repair", y.paperOf(0, 2), 52);
        y.pass(1);
        Check.due("paper is gone with the repair", y.paperOf(0, 2), Check.NONE);
        BoilerPapers z = house(10);
        z.inspect(0, 1);
        z.set(0, 0);
        z.pass(40);
        z.repair(0);
        z.undo();
        z.press(0, 9);
        z.fire(0);
        z.pass(1);
        z.pass(60);
        Check.due("wear 1 by the week put out", z.boilerOf(0, 2), 1);
        z.repair(0);
        z.pass(1);
        Check.due("a quarter of 1", z.boilerOf(0, 2), 0);
    }

    private static void promise10RepairEndsBeforePutOut() {
        BoilerPapers x = house(40);
        x.inspect(0, 0);
        x.fire(0);
        x.pass(30);
        x.out(0);
        x.repair(0);
        Check.due("16 weeks for 150", x.boilerOf(0, 5), 16);
        x.pass(15);
        Check.due("paper holds in repair", x.count(6), 1);
        x.pass(1);
        Check.due("paper gone", x.count(6), 0);
        Check.due("wear", x.boilerOf(0, 2), 37);
        x.pass(3);
        x.inspect(0, 0);
        Check.due("paper with wear 37, 49 + 52 - 7", x.paperOf(0, 2), 94);
        Check.due("paper with wear 37, 40 * 163 / 200", x.paperOf(0, 1), 32);
    }

    private static void promise10Limits() {
        BoilerPapers x = house(10);
        int[] wrong = {0, 61, -1, Integer.MIN_VALUE, Integer.MAX_VALUE};
        for (int weeks : wrong) {
            Check.refused("pass(" + weeks + ")", x, Check.INVALID, y -> y.pass(weeks));
        }
        for (int i = 0; i < 166; i++) {
            Check.due("pass(60)", x.pass(60), 0);
        }
        Check.due("week", x.count(2), 9960);
        Check.refused("pass(40)", x, Check.LIMIT, y -> y.pass(40));
        Check.refused("pass(61) near the end", x, Check.INVALID, y -> y.pass(61));
        Check.due("pass(39)", x.pass(39), 0);
        Check.refused("pass(1) in week 9999", x, Check.LIMIT, y -> y.pass(1));
        Check.due("cold weeks", x.boilerOf(0, 4), 10000);
        x.inspect(0, 0);
        Check.due("fire(0) in week 9999", x.fire(0), 53);
        Check.due("goesOn(0) in week 9999", x.goesOn(0), 53);
    }

    private static void promise11Set() {
        BoilerPapers x = new BoilerPapers();
        int[] before = {120, 90, 8, 15};
        int[] greatest = {200, 200, 99, 99};
        for (int what = 0; what < 4; what++) {
            final int w = what;
            final int above = greatest[what] + 1;
            Check.refused("set(" + w + ", " + above + ")", x, Check.INVALID, y -> y.set(w, above));
            Check.refused("set(" + w + ", -1)", x, Check.INVALID, y -> y.set(w, -1));
            Check.due("set(" + w + ", 0)", x.set(w, 0), before[w]);
            Check.due("set(" + w + ", greatest)", x.set(w, greatest[w]), 0);
            Check.due("setting " + w, x.count(20 + w), greatest[w]);
        }
        Check.refused("set(4, 0)", x, Check.INVALID, y -> y.set(4, 0));
        Check.refused("set(-1, 0)", x, Check.INVALID, y -> y.set(-1, 0));
        Check.refused("set of extremes", x, Check.INVALID,
            y -> y.set(Integer.MIN_VALUE, Integer.MAX_VALUE));
    }
}
