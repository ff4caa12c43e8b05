import java.util.Random;

/** All promises: runs of 512 calls, drawn from fixed seeds, with the answers of the plain model beside them. */
public final class RandomRunsTest {
    private static final int RUNS = 3000;
    private static final int CALLS = 512;
    private static final int[] ODD = {-2, -1, 41, 61, 127, 201, 10000, Integer.MIN_VALUE, Integer.MAX_VALUE};

    private final Random random;
    private final BoilerPapers program = new BoilerPapers();
    private final PlainModel model = new PlainModel();
    private final StringBuilder calls = new StringBuilder();
    private final int longestPass;
    private int left = CALLS;

    private RandomRunsTest(int seed) {
        random = new Random(seed);
        longestPass = new int[] {2, 6, 20, 60}[seed % 4];
    }

    public static void main(String[] args) {
        for (int seed = 0; seed < RUNS && Check.allDue(); seed++) {
            new RandomRunsTest(seed).run();
        }
        Check.finish();
    }

    private void run() {
        for (int i = below(4); i >= 0; i--) {
            call("boiler", below(39) + 2, 0, 0);
            call("inspector", below(2), below(3) + 1, 0);
        }
        while (left > 0) {
            int kind = below(20);
            if (kind < 11) {
                change();
            } else if (kind < 19) {
                question();
            } else {
                text();
            }
        }
    }

    private void change() {
        int b = boiler();
        switch (below(26)) {
            case 0: call("boiler", below(41) + 1, 0, 0); return;
            case 1: call("inspector", below(2), below(3) + 1, 0); return;
            case 2: case 3: call("press", b, below(40) + 1, 0); return;
            case 4: case 5: case 6: case 7: case 8: call("inspect", b, inspector(), 0); return;
            case 9: case 10: case 11: case 12: case 13: call("fire", b, 0, 0); return;
            case 14: call("out", b, 0, 0); return;
            case 15: call("plan", b, odd(model.s.week + below(15)), below(22)); return;
            case 16: call("repair", b, 0, 0); return;
            case 17: call("set", odd(below(4)), odd(below(202)), 0); return;
            case 18: call("undo", 0, 0, 0); return;
            case 19: fitPressure(b); return;
            default: call("pass", odd(below(longestPass) + 1), 0, 0);
        }
    }

    /** The chance alone seldom meets a pressure that the paper allows. */
    private void fitPressure(int b) {
        int paper = model.call("paperOf", b, 1, 0);
        call("press", b, paper + below(3) - 1, 0);
    }

    private void question() {
        int b = boiler();
        switch (below(14)) {
            case 0: case 1: call("boilerOf", b, odd(below(10)), 0); return;
            case 2: call("paperOf", b, odd(below(3)), 0); return;
            case 3: call("inspectorOf", inspector(), odd(below(5)), 0); return;
            case 4: call("why", b, below(2) == 0 ? -1 : inspector(), 0); return;
            case 5: call("account", odd(below(4)), 0, 0); return;
            case 6: call("would", b, odd(below(2)), odd(below(2))); return;
            case 7: call("better", b, 0, 0); return;
            case 8: call("first", odd(below(2)), 0, 0); return;
            case 9: call("goesOn", b, 0, 0); return;
            case 10: call("share", b, 0, 0); return;
            default: call("count", odd(below(24)), 0, 0);
        }
    }

    private void text() {
        if (below(3) > 0) {
            call("clearText", 0, 0, 0);
        }
        for (int i = below(8); i >= 0; i--) {
            String order = order();
            for (int k = 0; k < order.length(); k++) {
                call("type", order.charAt(k), 0, 0);
            }
        }
        for (int what = 0; what < 3; what++) {
            call("fault", odd(what), 0, 0);
        }
        call("play", 0, 0, 0);
    }

    private String order() {
        switch (below(40)) {
            case 0: return String.valueOf((char) (30 + below(100)));
            case 1: return "b" + below(45) + ";";
            case 2: return "b" + below(120);
            case 3: return "i" + below(9) + ";";
            case 4: return "i" + below(9) + ",";
            case 5: return "f" + below(9) + "," + below(9) + ";";
            case 6: case 7: case 8: case 9: return "r" + below(4) + ";";
            case 10: case 11: case 12: case 13: return "o" + below(4) + ";";
            case 14: case 15: case 16: case 17: return "w0" + below(10) + ";";
            case 18: case 19: case 20: case 21: return "w" + below(62) + ";";
            case 22: case 23: case 24: case 25: case 26: case 27: case 28: case 29:
                return "i" + below(4) + "," + below(3) + ";";
            default: return "f" + below(4) + ";";
        }
    }

    private int below(int bound) {
        return random.nextInt(bound);
    }

    private int odd(int usual) {
        return below(25) == 0 ? ODD[below(ODD.length)] : usual;
    }

    private int boiler() {
        return odd(below(Math.max(1, model.s.boilers.size())));
    }

    private int inspector() {
        return odd(below(Math.max(1, model.s.inspectors.size())));
    }

    private void call(String name, int a, int b, int c) {
        if (left == 0) {
            return;
        }
        left--;
        String call = name + "(" + a + ", " + b + ", " + c + ")";
        calls.append(call).append(' ');
        boolean fine = Check.allDue();
        Check.due(call, new Call(name, a, b, c).on(program), model.call(name, a, b, c));
        if (fine && !Check.allDue()) {
            System.out.println("behind " + calls);
        }
    }
}
