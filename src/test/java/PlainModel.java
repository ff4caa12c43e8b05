import java.util.ArrayList;
import java.util.List;
import java.util.regex.Matcher;
import java.util.regex.Pattern;

/**
 * The document once more, written another way than the program: errors are thrown, states are whole copies,
 * the text is read by a pattern, and goesOn lets weeks pass until the boiler is out.
 */
final class PlainModel {
    private static final Pattern ORDER =
        Pattern.compile("([bforw])([0-9]{1,2});|(i)([0-9]{1,2}),([0-9]{1,2});");

    static final class Refused extends Exception {
        private static final long serialVersionUID = 1L;
        final int error;

        Refused(int error) {
            this.error = error;
        }
    }

    record Paper(int insurer, int pressure, int last) {
    }

    record Shutdown(int from, int last) {
        boolean covers(int week) {
            return week >= from && week <= last;
        }
    }

    static final class Boiler {
        int builtFor;
        int working;
        int wear;
        boolean steam;
        boolean inRepair;
        int coldSince;
        int repairedIn;
        boolean asked;
        Paper paper;
        Shutdown shutdown;

        Boiler copy() {
            Boiler b = new Boiler();
            b.builtFor = builtFor;
            b.working = working;
            b.wear = wear;
            b.steam = steam;
            b.inRepair = inRepair;
            b.coldSince = coldSince;
            b.repairedIn = repairedIn;
            b.asked = asked;
            b.paper = paper;
            b.shutdown = shutdown;
            return b;
        }

        boolean cold() {
            return !steam && !inRepair;
        }
    }

    static final class Inspector {
        int insurer;
        int many;
        int total;
        int papers;
        int totalBeforeThisWeek;

        Inspector copy() {
            Inspector i = new Inspector();
            i.insurer = insurer;
            i.many = many;
            i.total = total;
            i.papers = papers;
            i.totalBeforeThisWeek = totalBeforeThisWeek;
            return i;
        }

        int left() {
            return many - (total - totalBeforeThisWeek);
        }
    }

    /** What an undo brings back. */
    static final class State {
        List<Boiler> boilers = new ArrayList<>();
        List<Inspector> inspectors = new ArrayList<>();
        int[] settings = {120, 90, 8, 15};
        int[] got = new int[3];
        int week;
        int putOut;
        int repairWeeks;

        State copy() {
            State s = new State();
            boilers.forEach(b -> s.boilers.add(b.copy()));
            inspectors.forEach(i -> s.inspectors.add(i.copy()));
            s.settings = settings.clone();
            s.got = got.clone();
            s.week = week;
            s.putOut = putOut;
            s.repairWeeks = repairWeeks;
            return s;
        }

        Boiler boiler(int number) throws Refused {
            demand(number >= 0 && number < boilers.size(), Check.INVALID);
            return boilers.get(number);
        }

        Inspector inspector(int number) throws Refused {
            demand(number >= 0 && number < inspectors.size(), Check.INVALID);
            return inspectors.get(number);
        }

        Paper offer(Boiler b, int insurer) {
            double strength = Math.floor(b.builtFor * (200.0 - b.wear) / 200.0);
            double pressure = insurer == 0 ? strength : Math.floor(strength * 9.0 / 10.0);
            int weeks = insurer == 0 ? 52 - (int) Math.floor(b.wear / 5.0) : 40;
            boolean worn = b.wear > settings[insurer];
            return worn || pressure < 1 ? null : new Paper(insurer, (int) pressure, week + weeks);
        }

        int whyNotFired(Boiler b) {
            boolean[] reasons = {b.inRepair, b.steam, b.asked, b.shutdown != null && b.shutdown.covers(week),
                b.paper == null, b.paper != null && b.working > b.paper.pressure};
            return firstTrue(reasons);
        }

        int whyNotInspected(Boiler b, Inspector i) {
            boolean[] reasons = {b.inRepair, b.steam, b.coldSince == week, b.asked, i.left() == 0};
            return firstTrue(reasons);
        }

        int onePasses() {
            for (Boiler b : boilers) {
                if (b.steam) {
                    b.wear = Math.min(200, b.wear + 1 + b.working / 10);
                }
            }
            week++;
            inspectors.forEach(i -> i.totalBeforeThisWeek = i.total);
            for (Boiler b : boilers) {
                if (b.inRepair && b.repairedIn == week) {
                    b.inRepair = false;
                    b.coldSince = week;
                    b.wear /= 4;
                    b.asked = false;
                    b.paper = null;
                }
            }
            int out = 0;
            for (Boiler b : boilers) {
                b.paper = b.paper != null && b.paper.last < week ? null : b.paper;
                b.shutdown = b.shutdown != null && b.shutdown.last < week ? null : b.shutdown;
                if (b.steam && (b.paper == null || b.shutdown != null && b.shutdown.covers(week))) {
                    b.steam = false;
                    b.coldSince = week;
                    out++;
                }
            }
            putOut += out;
            return out;
        }
    }

    State s = new State();
    private final List<State> history = new ArrayList<>();
    private String text = "";

    static void demand(boolean so, int error) throws Refused {
        if (!so) {
            throw new Refused(error);
        }
    }

    static boolean in(int value, int least, int most) {
        return value >= least && value <= most;
    }

    private static int firstTrue(boolean[] reasons) {
        for (int i = 0; i < reasons.length; i++) {
            if (reasons[i]) {
                return i + 1;
            }
        }
        return 0;
    }

    /** A call by its name; changes are noted in the history if they are not refused. */
    int call(String name, int a, int b, int c) {
        State before = s.copy();
        try {
            int answer = answer(name, a, b, c);
            if (List.of("boiler", "inspector", "press", "inspect", "fire", "out", "plan", "repair", "pass", "set",
                "play").contains(name)) {
                history.add(before);
                if (history.size() == 5) {
                    history.remove(0);
                }
            }
            return answer;
        } catch (Refused e) {
            s = name.equals("undo") ? s : before;
            return e.error;
        }
    }

    private int answer(String name, int a, int b, int c) throws Refused {
        switch (name) {
            case "press": return press(a, b);
            case "plan": return plan(a, b, c);
            case "set": return set(a, b);
            case "inspector": return inspector(a, b);
            case "boilerOf": return boilerOf(a, b);
            case "paperOf": return paperOf(a, b);
            case "inspectorOf": return inspectorOf(a, b);
            case "why": return why(a, b);
            case "account": return account(a);
            case "would": return would(a, b, c);
            case "better": return better(a);
            case "first": return first(a);
            case "goesOn": return goesOn(a);
            case "share": return share(a);
            case "count": return count(a);
            case "undo": return undo();
            case "type": return type(a);
            case "clearText": return clearText();
            case "fault": return fault(a);
            case "play": return play();
            default: return order(name, a, b);
        }
    }

    private int order(String name, int a, int b) throws Refused {
        switch (name) {
            case "boiler": return boiler(a);
            case "inspect": return inspect(a, b);
            case "fire": return fire(a);
            case "out": return out(a);
            case "repair": return repair(a);
            case "pass": return pass(a);
            default: throw new IllegalArgumentException(name);
        }
    }

    private int boiler(int pressure) throws Refused {
        demand(in(pressure, 2, 40), Check.INVALID);
        demand(s.boilers.size() < 8, Check.LIMIT);
        Boiler b = new Boiler();
        b.builtFor = pressure;
        b.working = pressure;
        b.coldSince = s.week - 1;
        s.boilers.add(b);
        return s.boilers.size() - 1;
    }

    private int inspector(int insurer, int many) throws Refused {
        demand(in(insurer, 0, 1) && in(many, 1, 3), Check.INVALID);
        demand(s.inspectors.size() < 6, Check.LIMIT);
        Inspector i = new Inspector();
        i.insurer = insurer;
        i.many = many;
        s.inspectors.add(i);
        return s.inspectors.size() - 1;
    }

    private int press(int number, int pressure) throws Refused {
        Boiler b = s.boiler(number);
        demand(in(pressure, 1, b.builtFor), Check.INVALID);
        demand(!(b.steam && pressure > b.paper.pressure), Check.IMPOSSIBLE);
        int was = b.working;
        b.working = pressure;
        return was;
    }

    private int inspect(int number, int by) throws Refused {
        Boiler b = s.boiler(number);
        Inspector i = s.inspector(by);
        demand(s.whyNotInspected(b, i) == 0, Check.IMPOSSIBLE);
        b.paper = s.offer(b, i.insurer);
        b.asked = b.paper == null;
        i.total++;
        i.papers += b.paper == null ? 0 : 1;
        s.got[i.insurer] += s.settings[2];
        return b.paper == null ? 0 : b.paper.pressure;
    }

    private int fire(int number) throws Refused {
        Boiler b = s.boiler(number);
        demand(s.whyNotFired(b) == 0, Check.IMPOSSIBLE);
        b.steam = true;
        return b.paper.last - s.week + 1;
    }

    private int out(int number) throws Refused {
        Boiler b = s.boiler(number);
        demand(b.steam, Check.IMPOSSIBLE);
        b.steam = false;
        b.coldSince = s.week;
        return b.wear;
    }

    private int plan(int number, int from, int weeks) throws Refused {
        Boiler b = s.boiler(number);
        demand(in(from, s.week, 9999) && in(weeks, 1, 20), Check.INVALID);
        demand(!(b.steam && from == s.week), Check.IMPOSSIBLE);
        b.shutdown = new Shutdown(from, from + weeks - 1);
        return b.shutdown.last;
    }

    private int repair(int number) throws Refused {
        Boiler b = s.boiler(number);
        demand(b.cold(), Check.IMPOSSIBLE);
        int weeks = b.wear / 10 + 1;
        b.inRepair = true;
        b.repairedIn = s.week + weeks;
        s.repairWeeks += weeks;
        s.got[2] += weeks * s.settings[3];
        return weeks;
    }

    private int pass(int weeks) throws Refused {
        demand(in(weeks, 1, 60), Check.INVALID);
        demand(s.week + weeks <= 9999, Check.LIMIT);
        int out = 0;
        for (int i = 0; i < weeks; i++) {
            out += s.onePasses();
        }
        return out;
    }

    private int set(int what, int value) throws Refused {
        demand(in(what, 0, 3), Check.INVALID);
        demand(in(value, 0, what < 2 ? 200 : 99), Check.INVALID);
        int was = s.settings[what];
        s.settings[what] = value;
        return was;
    }

    private int boilerOf(int number, int what) throws Refused {
        Boiler b = s.boiler(number);
        demand(in(what, 0, 9), Check.INVALID);
        demand(what != 4 || b.cold(), Check.NONE);
        demand(what != 5 || b.inRepair, Check.NONE);
        demand(what != 7 && what != 8 || b.shutdown != null, Check.NONE);
        switch (what) {
            case 0: return b.builtFor;
            case 1: return b.working;
            case 2: return b.wear;
            case 3: return b.inRepair ? 2 : b.steam ? 1 : 0;
            case 4: return s.week - b.coldSince;
            case 5: return b.repairedIn - s.week;
            case 6: return b.asked ? 1 : 0;
            case 7: return b.shutdown.from;
            case 8: return b.shutdown.last;
            default: return (int) Math.floor(b.builtFor * (200.0 - b.wear) / 200.0);
        }
    }

    private int paperOf(int number, int what) throws Refused {
        Boiler b = s.boiler(number);
        demand(in(what, 0, 2), Check.INVALID);
        demand(b.paper != null, Check.NONE);
        return new int[] {b.paper.insurer, b.paper.pressure, b.paper.last}[what];
    }

    private int inspectorOf(int number, int what) throws Refused {
        Inspector i = s.inspector(number);
        demand(in(what, 0, 4), Check.INVALID);
        return new int[] {i.insurer, i.many, i.left(), i.total, i.papers}[what];
    }

    private int why(int number, int by) throws Refused {
        Boiler b = s.boiler(number);
        return by == -1 ? s.whyNotFired(b) : s.whyNotInspected(b, s.inspector(by));
    }

    private int account(int whose) throws Refused {
        demand(in(whose, 0, 3), Check.INVALID);
        return whose < 3 ? s.got[whose] : -s.got[0] - s.got[1] - s.got[2];
    }

    private int would(int number, int insurer, int what) throws Refused {
        Boiler b = s.boiler(number);
        demand(in(insurer, 0, 1) && in(what, 0, 1), Check.INVALID);
        Paper paper = s.offer(b, insurer);
        demand(what == 0 || paper != null, Check.NONE);
        return paper == null ? 0 : what == 0 ? paper.pressure : paper.last;
    }

    private int better(int number) throws Refused {
        Boiler b = s.boiler(number);
        Paper best = null;
        for (int insurer = 0; insurer < 2; insurer++) {
            Paper paper = s.offer(b, insurer);
            if (paper == null || paper.pressure < b.working) {
                continue;
            }
            boolean better = best == null || paper.last > best.last
                || paper.last == best.last && paper.pressure > best.pressure;
            best = better ? paper : best;
        }
        demand(best != null, Check.NONE);
        return best.insurer;
    }

    private int first(int what) throws Refused {
        demand(in(what, 0, 1), Check.INVALID);
        int last = s.boilers.stream().filter(b -> b.steam).mapToInt(b -> b.paper.last).min().orElse(-1);
        demand(last >= 0, Check.NONE);
        for (int i = 0; what == 0; i++) {
            if (s.boilers.get(i).steam && s.boilers.get(i).paper.last == last) {
                return i;
            }
        }
        return last;
    }

    private int goesOn(int number) throws Refused {
        demand(s.boiler(number).steam, Check.IMPOSSIBLE);
        State later = s.copy();
        int weeks = 0;
        while (later.boiler(number).steam) {
            later.onePasses();
            weeks++;
        }
        return weeks;
    }

    private int share(int number) throws Refused {
        int strength = boilerOf(number, 9);
        return Float.floatToIntBits((float) strength / (float) s.boiler(number).builtFor);
    }

    private int count(int what) throws Refused {
        demand(in(what, 0, 14) || in(what, 20, 23), Check.INVALID);
        int set = 0;
        for (int i = 0; i < s.boilers.size(); i++) {
            Boiler b = s.boilers.get(i);
            boolean there = what == 3 && b.steam || what == 4 && b.inRepair || what == 5 && b.asked
                || what == 6 && b.paper != null || what == 12 && s.whyNotFired(b) == 0;
            set += there ? 1 << i : 0;
        }
        switch (what) {
            case 0: return s.boilers.size();
            case 1: return s.inspectors.size();
            case 2: return s.week;
            case 7: return 0;
            case 8: return s.inspectors.stream().mapToInt(i -> i.total).sum();
            case 9: return s.inspectors.stream().mapToInt(i -> i.papers).sum();
            case 10: return s.putOut;
            case 11: return s.repairWeeks;
            case 13: return history.size();
            case 14: return text.length();
            default: return what >= 20 ? s.settings[what - 20] : set;
        }
    }

    private int undo() throws Refused {
        demand(!history.isEmpty(), Check.IMPOSSIBLE);
        s = history.remove(history.size() - 1);
        return history.size();
    }

    private int type(int character) throws Refused {
        demand(in(character, 32, 126), Check.INVALID);
        demand(text.length() < 60, Check.LIMIT);
        text += (char) character;
        return text.length();
    }

    private int clearText() {
        int was = text.length();
        text = "";
        return was;
    }

    private int fault(int what) throws Refused {
        demand(in(what, 0, 2), Check.INVALID);
        State before = s.copy();
        int[] found = doText();
        s = before;
        demand(found.length == 3, Check.NONE);
        return found[what];
    }

    private int play() throws Refused {
        int[] found = doText();
        demand(found.length == 1, Check.IMPOSSIBLE);
        return found[0];
    }

    /** Does the orders: how many, or the place, reason and cause of the fault. */
    private int[] doText() {
        int place = 0;
        int orders = 0;
        while (place < text.length()) {
            Matcher order = ORDER.matcher(text.substring(place));
            if (!order.lookingAt()) {
                return new int[] {place, 1, breaksOff(text.substring(place))};
            }
            try {
                doOrder(order);
            } catch (Refused e) {
                return new int[] {place, 2, e.error};
            }
            orders++;
            place += order.end();
        }
        return new int[] {orders};
    }

    private void doOrder(Matcher order) throws Refused {
        if (order.group(3) != null) {
            inspect(Integer.parseInt(order.group(4)), Integer.parseInt(order.group(5)));
            return;
        }
        String[] names = {"boiler", "fire", "out", "repair", "pass"};
        order(names["bforw".indexOf(order.group(1))], Integer.parseInt(order.group(2)), 0);
    }

    /** The first character that no order could have where it stands. */
    private static int breaksOff(String rest) {
        for (int length = 1; length <= rest.length(); length++) {
            Matcher begun = ORDER.matcher(rest.substring(0, length));
            if (!begun.matches() && !begun.hitEnd()) {
                return length - 1;
            }
        }
        return rest.length();
    }
}
