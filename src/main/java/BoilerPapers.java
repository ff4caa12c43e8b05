/** Boilers with papers. What every call answers is told in the document, ../shared/DOC.md. */
public final class BoilerPapers {

    public static final int INVALID_ARGUMENT = -2000000001;
    public static final int NOT_POSSIBLE = -2000000002;
    public static final int LIMIT_REACHED = -2000000003;
    public static final int NOT_FOUND = -2000000004;

    private static final int MOST_BOILERS = 8;
    private static final int MOST_INSPECTORS = 6;
    private static final int MOST_STATES = 4;
    private static final int LONGEST_TEXT = 60;

    private static final int LEAST_BUILT_FOR = 2;
    private static final int MOST_BUILT_FOR = 40;
    private static final int MOST_INSPECTIONS = 3;
    private static final int MOST_WEAR = 200;
    private static final int LAST_WEEK = 9999;
    private static final int LONGEST_SHUTDOWN = 20;
    private static final int LONGEST_PASS = 60;

    private static final int COLD = 0;
    private static final int UNDER_STEAM = 1;
    private static final int IN_REPAIR = 2;

    private static final int SHOP = 2;
    private static final int OWNER = 3;

    private static final int PRICE_OF_INSPECTION = 2;
    private static final int PRICE_OF_REPAIR_WEEK = 3;
    private static final int[] GREATEST_SETTINGS = {200, 200, 99, 99};

    private static final int FIRST_SETTING_COUNT = 20;
    private static final int LAST_SETTING_COUNT = 23;

    private static final int NO_FAULT = 0;
    private static final int NOT_OF_THE_FORM = 1;
    private static final int NOT_DONE = 2;

    private static final int NO_SIGN = -1;
    private static final int NO_NUMBER = -1;
    private static final int NO_INSPECTOR = -1;

    private final House now = new House();
    private final House trial = new House();
    private final History history = new History();
    private final OrderText text = new OrderText();
    private final Rehearsal rehearsal = new Rehearsal();

    public BoilerPapers() {
    }

    // ---- boilers, inspectors

    public int boiler(int pressure) {
        return settle(trialOfNow().addBoiler(pressure));
    }

    public int inspector(int insurer, int many) {
        return settle(trialOfNow().addInspector(insurer, many));
    }

    public int press(int boiler, int pressure) {
        return settle(trialOfNow().changePressure(boiler, pressure));
    }

    // ---- work

    public int inspect(int boiler, int inspector) {
        return settle(trialOfNow().examine(boiler, inspector));
    }

    public int fire(int boiler) {
        return settle(trialOfNow().light(boiler));
    }

    public int out(int boiler) {
        return settle(trialOfNow().putOut(boiler));
    }

    public int plan(int boiler, int from, int weeks) {
        return settle(trialOfNow().planShutdown(boiler, from, weeks));
    }

    public int repair(int boiler) {
        return settle(trialOfNow().sendToRepair(boiler));
    }

    public int pass(int weeks) {
        return settle(trialOfNow().letWeeksPass(weeks));
    }

    public int set(int what, int value) {
        return settle(trialOfNow().changeSetting(what, value));
    }

    // ---- what there is

    public int boilerOf(int boiler, int what) {
        return now.factOfBoiler(boiler, what);
    }

    public int paperOf(int boiler, int what) {
        return now.factOfPaper(boiler, what);
    }

    public int inspectorOf(int inspector, int what) {
        return now.factOfInspector(inspector, what);
    }

    public int why(int boiler, int inspector) {
        if (inspector == NO_INSPECTOR) {
            return now.whyNotFired(boiler);
        }
        return now.whyNotInspected(boiler, inspector);
    }

    public int account(int whose) {
        return now.balanceOf(whose);
    }

    // ---- what would be

    public int would(int boiler, int insurer, int what) {
        return now.paperThatWouldBe(boiler, insurer, what);
    }

    public int better(int boiler) {
        return now.betterInsurer(boiler);
    }

    public int first(int what) {
        return now.firstToRunOut(what);
    }

    public int goesOn(int boiler) {
        return now.weeksUntilPutOut(boiler);
    }

    public int share(int boiler) {
        return now.shareOfStrength(boiler);
    }

    public int count(int what) {
        switch (what) {
            case 13: return history.size();
            case 14: return text.length();
            default: return now.numberOf(what);
        }
    }

    public int undo() {
        return history.bringBack(now);
    }

    // ---- texts

    public int type(int character) {
        return text.append(character);
    }

    public int clearText() {
        return text.empty();
    }

    public int fault(int what) {
        if (what < 0 || what > 2) {
            return INVALID_ARGUMENT;
        }
        rehearsal.run(text, trialOfNow());
        return rehearsal.factOfFault(what);
    }

    public int play() {
        rehearsal.run(text, trialOfNow());
        return settle(rehearsal.ordersDone());
    }

    // Each change is made on the trial first, so that a call with an error changes nothing.
    private House trialOfNow() {
        trial.copyFrom(now);
        return trial;
    }

    private int settle(int answer) {
        if (!isError(answer)) {
            history.keep(now);
            now.copyFrom(trial);
        }
        return answer;
    }

    private static boolean isError(int answer) {
        return answer <= INVALID_ARGUMENT;
    }

    private static boolean isInsurer(int insurer) {
        return insurer == 0 || insurer == 1;
    }

    /** One boiler, with its paper and its shutdown. */
    private static final class Boiler {
        private int builtFor;
        private int working;
        private int wear;
        private int condition;
        private int coldWeeks;
        private int repairEnd;
        private boolean repairAsked;
        private boolean paperGiven;
        private int paperInsurer;
        private int paperPressure;
        private int paperLast;
        private boolean shutPlanned;
        private int shutFrom;
        private int shutLast;

        // A row is used again after an undo, so nothing of what it held may stay.
        void begin(int pressure) {
            builtFor = pressure;
            working = pressure;
            wear = 0;
            condition = COLD;
            coldWeeks = 1;
            repairEnd = 0;
            repairAsked = false;
            paperGiven = false;
            shutPlanned = false;
        }

        void copyFrom(Boiler other) {
            builtFor = other.builtFor;
            working = other.working;
            wear = other.wear;
            condition = other.condition;
            coldWeeks = other.coldWeeks;
            repairEnd = other.repairEnd;
            repairAsked = other.repairAsked;
            paperGiven = other.paperGiven;
            paperInsurer = other.paperInsurer;
            paperPressure = other.paperPressure;
            paperLast = other.paperLast;
            shutPlanned = other.shutPlanned;
            shutFrom = other.shutFrom;
            shutLast = other.shutLast;
        }

        int strength() {
            return builtFor * (MOST_WEAR - wear) / 200;
        }

        boolean isShutIn(int week) {
            return shutPlanned && shutFrom <= week && week <= shutLast;
        }

        int whyNotFiredIn(int week) {
            if (condition == IN_REPAIR) {
                return 1;
            }
            if (condition == UNDER_STEAM) {
                return 2;
            }
            if (repairAsked) {
                return 3;
            }
            if (isShutIn(week)) {
                return 4;
            }
            if (!paperGiven) {
                return 5;
            }
            return working > paperPressure ? 6 : 0;
        }

        int whyNotInspectedBy(Inspector inspector) {
            if (condition == IN_REPAIR) {
                return 1;
            }
            if (condition == UNDER_STEAM) {
                return 2;
            }
            if (coldWeeks == 0) {
                return 3;
            }
            if (repairAsked) {
                return 4;
            }
            return inspector.left() < 1 ? 5 : 0;
        }

        void takePaper(int insurer, int pressure, int last) {
            paperGiven = true;
            paperInsurer = insurer;
            paperPressure = pressure;
            paperLast = last;
        }

        void refusePaper() {
            paperGiven = false;
            repairAsked = true;
        }

        void becomeCold() {
            condition = COLD;
            coldWeeks = 0;
        }

        void age() {
            if (condition == UNDER_STEAM) {
                wear = Math.min(MOST_WEAR, wear + 1 + working / 10);
            } else if (condition == COLD) {
                coldWeeks++;
            }
        }

        void endRepairIn(int week) {
            if (condition != IN_REPAIR || repairEnd > week) {
                return;
            }
            becomeCold();
            wear = wear / 4;
            repairAsked = false;
            paperGiven = false;
        }

        void dropWhatIsPastIn(int week) {
            if (paperGiven && paperLast < week) {
                paperGiven = false;
            }
            if (shutPlanned && shutLast < week) {
                shutPlanned = false;
            }
        }

        boolean mustGoOutIn(int week) {
            return condition == UNDER_STEAM && (!paperGiven || isShutIn(week));
        }

        int weeksUntilPutOut(int week) {
            if (condition != UNDER_STEAM) {
                return NOT_POSSIBLE;
            }
            int weeks = paperLast + 1 - week;
            return shutPlanned ? Math.min(weeks, shutFrom - week) : weeks;
        }

        int fact(int what, int week) {
            switch (what) {
                case 0: return builtFor;
                case 1: return working;
                case 2: return wear;
                case 3: return condition;
                case 4: return condition == COLD ? coldWeeks : NOT_FOUND;
                case 5: return condition == IN_REPAIR ? repairEnd - week : NOT_FOUND;
                case 6: return repairAsked ? 1 : 0;
                case 7: return shutPlanned ? shutFrom : NOT_FOUND;
                case 8: return shutPlanned ? shutLast : NOT_FOUND;
                case 9: return strength();
                default: return INVALID_ARGUMENT;
            }
        }

        int factOfPaper(int what) {
            if (what < 0 || what > 2) {
                return INVALID_ARGUMENT;
            }
            if (!paperGiven) {
                return NOT_FOUND;
            }
            if (what == 0) {
                return paperInsurer;
            }
            return what == 1 ? paperPressure : paperLast;
        }
    }

    /** One inspector, with what he has done. */
    private static final class Inspector {
        private int insurer;
        private int inWeek;
        private int doneThisWeek;
        private int inspections;
        private int papers;

        void begin(int ofInsurer, int many) {
            insurer = ofInsurer;
            inWeek = many;
            doneThisWeek = 0;
            inspections = 0;
            papers = 0;
        }

        void copyFrom(Inspector other) {
            insurer = other.insurer;
            inWeek = other.inWeek;
            doneThisWeek = other.doneThisWeek;
            inspections = other.inspections;
            papers = other.papers;
        }

        int left() {
            return inWeek - doneThisWeek;
        }

        void noteInspection(boolean withPaper) {
            doneThisWeek++;
            inspections++;
            if (withPaper) {
                papers++;
            }
        }

        void beginWeek() {
            doneThisWeek = 0;
        }

        int fact(int what) {
            switch (what) {
                case 0: return insurer;
                case 1: return inWeek;
                case 2: return left();
                case 3: return inspections;
                case 4: return papers;
                default: return INVALID_ARGUMENT;
            }
        }
    }

    /** All that an undo brings back: boilers, inspectors, settings, accounts and the week. */
    private static final class House {
        private final Boiler[] boilers = new Boiler[MOST_BOILERS];
        private final Inspector[] inspectors = new Inspector[MOST_INSPECTORS];
        private final int[] settings = {120, 90, 8, 15};
        private final int[] accounts = {0, 0, 0, 0};
        private int boilerCount;
        private int inspectorCount;
        private int week;
        private int putOutByWeeks;
        private int repairWeeksPaid;

        House() {
            for (int i = 0; i < boilers.length; i++) {
                boilers[i] = new Boiler();
            }
            for (int i = 0; i < inspectors.length; i++) {
                inspectors[i] = new Inspector();
            }
        }

        void copyFrom(House other) {
            boilerCount = other.boilerCount;
            inspectorCount = other.inspectorCount;
            week = other.week;
            putOutByWeeks = other.putOutByWeeks;
            repairWeeksPaid = other.repairWeeksPaid;
            copyNumbers(other.settings, settings);
            copyNumbers(other.accounts, accounts);
            for (int i = 0; i < boilerCount; i++) {
                Boiler from = other.boilerAt(i);
                Boiler to = boilerAt(i);
                if (from != null && to != null) {
                    to.copyFrom(from);
                }
            }
            for (int i = 0; i < inspectorCount; i++) {
                Inspector from = other.inspectorAt(i);
                Inspector to = inspectorAt(i);
                if (from != null && to != null) {
                    to.copyFrom(from);
                }
            }
        }

        private static void copyNumbers(int[] from, int[] to) {
            for (int i = 0; i < from.length && i < to.length; i++) {
                to[i] = from[i];
            }
        }

        private Boiler boilerAt(int number) {
            boolean there = number >= 0 && number < boilerCount && number < boilers.length;
            return there ? boilers[number] : null;
        }

        private Inspector inspectorAt(int number) {
            boolean there = number >= 0 && number < inspectorCount && number < inspectors.length;
            return there ? inspectors[number] : null;
        }

        private int settingAt(int what) {
            boolean there = what >= 0 && what < settings.length;
            return there ? settings[what] : INVALID_ARGUMENT;
        }

        int balanceOf(int whose) {
            boolean there = whose >= 0 && whose < accounts.length;
            return there ? accounts[whose] : INVALID_ARGUMENT;
        }

        private void ownerPays(int whom, int sum) {
            if (whom < 0 || whom >= accounts.length || OWNER >= accounts.length) {
                return;
            }
            accounts[OWNER] -= sum;
            accounts[whom] += sum;
        }

        int addBoiler(int pressure) {
            if (pressure < LEAST_BUILT_FOR || pressure > MOST_BUILT_FOR) {
                return INVALID_ARGUMENT;
            }
            if (boilerCount >= MOST_BOILERS) {
                return LIMIT_REACHED;
            }
            int number = boilerCount;
            boilerCount++;
            Boiler boiler = boilerAt(number);
            if (boiler != null) {
                boiler.begin(pressure);
            }
            return number;
        }

        int addInspector(int insurer, int many) {
            if (!isInsurer(insurer) || many < 1 || many > MOST_INSPECTIONS) {
                return INVALID_ARGUMENT;
            }
            if (inspectorCount >= MOST_INSPECTORS) {
                return LIMIT_REACHED;
            }
            int number = inspectorCount;
            inspectorCount++;
            Inspector inspector = inspectorAt(number);
            if (inspector != null) {
                inspector.begin(insurer, many);
            }
            return number;
        }

        int changePressure(int number, int pressure) {
            Boiler boiler = boilerAt(number);
            if (boiler == null || pressure < 1 || pressure > boiler.builtFor) {
                return INVALID_ARGUMENT;
            }
            if (boiler.condition == UNDER_STEAM && pressure > boiler.paperPressure) {
                return NOT_POSSIBLE;
            }
            int before = boiler.working;
            boiler.working = pressure;
            return before;
        }

        int examine(int boilerNumber, int inspectorNumber) {
            Boiler boiler = boilerAt(boilerNumber);
            Inspector inspector = inspectorAt(inspectorNumber);
            if (boiler == null || inspector == null) {
                return INVALID_ARGUMENT;
            }
            if (boiler.whyNotInspectedBy(inspector) != 0) {
                return NOT_POSSIBLE;
            }
            int pressure = pressureOffered(boiler, inspector.insurer);
            if (pressure > 0) {
                int last = lastWeekOffered(boiler, inspector.insurer);
                boiler.takePaper(inspector.insurer, pressure, last);
            } else {
                boiler.refusePaper();
            }
            inspector.noteInspection(pressure > 0);
            ownerPays(inspector.insurer, settingAt(PRICE_OF_INSPECTION));
            return pressure;
        }

        int light(int number) {
            Boiler boiler = boilerAt(number);
            if (boiler == null) {
                return INVALID_ARGUMENT;
            }
            if (boiler.whyNotFiredIn(week) != 0) {
                return NOT_POSSIBLE;
            }
            boiler.condition = UNDER_STEAM;
            return boiler.paperLast - week + 1;
        }

        int putOut(int number) {
            Boiler boiler = boilerAt(number);
            if (boiler == null) {
                return INVALID_ARGUMENT;
            }
            if (boiler.condition != UNDER_STEAM) {
                return NOT_POSSIBLE;
            }
            boiler.becomeCold();
            return boiler.wear;
        }

        int planShutdown(int number, int from, int weeks) {
            Boiler boiler = boilerAt(number);
            if (boiler == null || from < week || from > LAST_WEEK) {
                return INVALID_ARGUMENT;
            }
            if (weeks < 1 || weeks > LONGEST_SHUTDOWN) {
                return INVALID_ARGUMENT;
            }
            if (from == week && boiler.condition == UNDER_STEAM) {
                return NOT_POSSIBLE;
            }
            boiler.shutPlanned = true;
            boiler.shutFrom = from;
            boiler.shutLast = from + weeks - 1;
            return boiler.shutLast;
        }

        int sendToRepair(int number) {
            Boiler boiler = boilerAt(number);
            if (boiler == null) {
                return INVALID_ARGUMENT;
            }
            if (boiler.condition != COLD) {
                return NOT_POSSIBLE;
            }
            int weeks = boiler.wear / 10 + 1;
            boiler.condition = IN_REPAIR;
            boiler.repairEnd = week + weeks;
            repairWeeksPaid += weeks;
            ownerPays(SHOP, weeks * settingAt(PRICE_OF_REPAIR_WEEK));
            return weeks;
        }

        int letWeeksPass(int weeks) {
            if (weeks < 1 || weeks > LONGEST_PASS) {
                return INVALID_ARGUMENT;
            }
            if (week + weeks > LAST_WEEK) {
                return LIMIT_REACHED;
            }
            int putOut = 0;
            for (int i = 0; i < weeks; i++) {
                putOut += letOneWeekPass();
            }
            putOutByWeeks += putOut;
            return putOut;
        }

        private int letOneWeekPass() {
            week++;
            for (int i = 0; i < inspectorCount; i++) {
                Inspector inspector = inspectorAt(i);
                if (inspector != null) {
                    inspector.beginWeek();
                }
            }
            int putOut = 0;
            for (int i = 0; i < boilerCount; i++) {
                Boiler boiler = boilerAt(i);
                if (boiler == null) {
                    continue;
                }
                boiler.age();
                boiler.endRepairIn(week);
                boiler.dropWhatIsPastIn(week);
                if (boiler.mustGoOutIn(week)) {
                    boiler.becomeCold();
                    putOut++;
                }
            }
            return putOut;
        }

        int changeSetting(int what, int value) {
            if (what < 0 || what >= settings.length || what >= GREATEST_SETTINGS.length) {
                return INVALID_ARGUMENT;
            }
            if (value < 0 || value > GREATEST_SETTINGS[what]) {
                return INVALID_ARGUMENT;
            }
            int before = settings[what];
            settings[what] = value;
            return before;
        }

        /** Does an order of the text. */
        int obey(char kind, int one, int other) {
            switch (kind) {
                case 'b': return addBoiler(one);
                case 'i': return examine(one, other);
                case 'f': return light(one);
                case 'o': return putOut(one);
                case 'r': return sendToRepair(one);
                case 'w': return letWeeksPass(one);
                default: return INVALID_ARGUMENT;
            }
        }

        int factOfBoiler(int number, int what) {
            Boiler boiler = boilerAt(number);
            return boiler == null ? INVALID_ARGUMENT : boiler.fact(what, week);
        }

        int factOfPaper(int number, int what) {
            Boiler boiler = boilerAt(number);
            return boiler == null ? INVALID_ARGUMENT : boiler.factOfPaper(what);
        }

        int factOfInspector(int number, int what) {
            Inspector inspector = inspectorAt(number);
            return inspector == null ? INVALID_ARGUMENT : inspector.fact(what);
        }

        int whyNotFired(int number) {
            Boiler boiler = boilerAt(number);
            return boiler == null ? INVALID_ARGUMENT : boiler.whyNotFiredIn(week);
        }

        int whyNotInspected(int boilerNumber, int inspectorNumber) {
            Boiler boiler = boilerAt(boilerNumber);
            Inspector inspector = inspectorAt(inspectorNumber);
            if (boiler == null || inspector == null) {
                return INVALID_ARGUMENT;
            }
            return boiler.whyNotInspectedBy(inspector);
        }

        // 0 stands for "no paper would be given": no paper has a pressure below 1.
        private int pressureOffered(Boiler boiler, int insurer) {
            // The settings 0 and 1 are the greatest wear for the insurer of the same number.
            if (boiler.wear > settingAt(insurer)) {
                return 0;
            }
            int strength = boiler.strength();
            return insurer == 0 ? strength : strength * 9 / 10;
        }

        private int lastWeekOffered(Boiler boiler, int insurer) {
            return week + (insurer == 0 ? 52 - boiler.wear / 5 : 40);
        }

        int paperThatWouldBe(int number, int insurer, int what) {
            Boiler boiler = boilerAt(number);
            if (boiler == null || !isInsurer(insurer) || what < 0 || what > 1) {
                return INVALID_ARGUMENT;
            }
            int pressure = pressureOffered(boiler, insurer);
            if (what == 0) {
                return pressure;
            }
            return pressure > 0 ? lastWeekOffered(boiler, insurer) : NOT_FOUND;
        }

        int betterInsurer(int number) {
            Boiler boiler = boilerAt(number);
            if (boiler == null) {
                return INVALID_ARGUMENT;
            }
            boolean isZeroSuch = pressureOffered(boiler, 0) >= boiler.working;
            boolean isOneSuch = pressureOffered(boiler, 1) >= boiler.working;
            if (isZeroSuch && isOneSuch) {
                return isOneBetter(boiler) ? 1 : 0;
            }
            if (isZeroSuch) {
                return 0;
            }
            return isOneSuch ? 1 : NOT_FOUND;
        }

        private boolean isOneBetter(Boiler boiler) {
            int lastOfZero = lastWeekOffered(boiler, 0);
            int lastOfOne = lastWeekOffered(boiler, 1);
            if (lastOfZero != lastOfOne) {
                return lastOfOne > lastOfZero;
            }
            return pressureOffered(boiler, 1) > pressureOffered(boiler, 0);
        }

        int firstToRunOut(int what) {
            if (what < 0 || what > 1) {
                return INVALID_ARGUMENT;
            }
            int number = NOT_FOUND;
            int last = NOT_FOUND;
            for (int i = 0; i < boilerCount; i++) {
                Boiler boiler = boilerAt(i);
                if (boiler == null || boiler.condition != UNDER_STEAM) {
                    continue;
                }
                if (number == NOT_FOUND || boiler.paperLast < last) {
                    number = i;
                    last = boiler.paperLast;
                }
            }
            return what == 0 ? number : last;
        }

        int weeksUntilPutOut(int number) {
            Boiler boiler = boilerAt(number);
            return boiler == null ? INVALID_ARGUMENT : boiler.weeksUntilPutOut(week);
        }

        int shareOfStrength(int number) {
            Boiler boiler = boilerAt(number);
            if (boiler == null || boiler.builtFor < 1) {
                return INVALID_ARGUMENT;
            }
            return bitsOfShare((float) boiler.strength() / (float) boiler.builtFor);
        }

        // The library that is allowed cannot tell a float's bits; for 0 to 1 the steps here are exact.
        private static int bitsOfShare(float share) {
            if (share <= 0.0f) {
                return 0;
            }
            float fraction = share;
            int exponent = 127;
            for (int i = 0; i < 126 && fraction < 1.0f; i++) {
                fraction = fraction * 2.0f;
                exponent--;
            }
            return (exponent << 23) + (int) ((fraction - 1.0f) * 8388608.0f);
        }

        int numberOf(int what) {
            if (what >= FIRST_SETTING_COUNT && what <= LAST_SETTING_COUNT) {
                return settingAt(what - FIRST_SETTING_COUNT);
            }
            switch (what) {
                case 0: return boilerCount;
                case 1: return inspectorCount;
                case 2: return week;
                case 3:
                case 4:
                case 5:
                case 6:
                case 12: return setOfBoilers(what);
                case 7: return allAccounts();
                case 8: return allOfInspectors(3);
                case 9: return allOfInspectors(4);
                case 10: return putOutByWeeks;
                case 11: return repairWeeksPaid;
                default: return INVALID_ARGUMENT;
            }
        }

        private int setOfBoilers(int what) {
            int bits = 0;
            for (int i = 0; i < boilerCount; i++) {
                Boiler boiler = boilerAt(i);
                if (boiler != null && isInSet(boiler, what)) {
                    bits |= 1 << i;
                }
            }
            return bits;
        }

        private boolean isInSet(Boiler boiler, int what) {
            switch (what) {
                case 3: return boiler.condition == UNDER_STEAM;
                case 4: return boiler.condition == IN_REPAIR;
                case 5: return boiler.repairAsked;
                case 6: return boiler.paperGiven;
                default: return boiler.whyNotFiredIn(week) == 0;
            }
        }

        private int allAccounts() {
            int sum = 0;
            for (int account : accounts) {
                sum += account;
            }
            return sum;
        }

        private int allOfInspectors(int what) {
            int sum = 0;
            for (int i = 0; i < inspectorCount; i++) {
                Inspector inspector = inspectorAt(i);
                if (inspector != null) {
                    sum += inspector.fact(what);
                }
            }
            return sum;
        }
    }

    /** The states before the latest changes, in a ring whose rows are used again. */
    private static final class History {
        private final House[] states = new House[MOST_STATES];
        private int size;
        private int next;

        History() {
            for (int i = 0; i < states.length; i++) {
                states[i] = new House();
            }
        }

        int size() {
            return size;
        }

        private House stateAt(int place) {
            return place >= 0 && place < states.length ? states[place] : null;
        }

        void keep(House house) {
            House row = stateAt(next);
            if (row == null) {
                return;
            }
            row.copyFrom(house);
            next = (next + 1) % MOST_STATES;
            size = Math.min(size + 1, MOST_STATES);
        }

        int bringBack(House house) {
            int latest = (next + MOST_STATES - 1) % MOST_STATES;
            House row = stateAt(latest);
            if (size < 1 || row == null) {
                return NOT_POSSIBLE;
            }
            house.copyFrom(row);
            next = latest;
            size--;
            return size;
        }
    }

    /** The text, and the order of it that was read last. */
    private static final class OrderText {
        private final char[] signs = new char[LONGEST_TEXT];
        private int length;
        private int start;
        private int place;
        private char kind;
        private int one;
        private int other;

        int length() {
            return length;
        }

        int append(int character) {
            if (character < 32 || character > 126) {
                return INVALID_ARGUMENT;
            }
            if (length < 0 || length >= signs.length) {
                return LIMIT_REACHED;
            }
            signs[length] = (char) character;
            length++;
            return length;
        }

        int empty() {
            int before = length;
            length = 0;
            return before;
        }

        void goToStart() {
            place = 0;
        }

        boolean hasMore() {
            return place < length;
        }

        /** Where in the order that was read last the reading stopped. */
        int brokeOffAt() {
            return place - start;
        }

        /** Reads the order that begins here; false if it is not of the form. */
        boolean readOrder() {
            start = place;
            if (!readKind()) {
                return false;
            }
            one = readNumber();
            if (one == NO_NUMBER) {
                return false;
            }
            other = 0;
            if (kind == 'i') {
                if (!readSign(',')) {
                    return false;
                }
                other = readNumber();
                if (other == NO_NUMBER) {
                    return false;
                }
            }
            return readSign(';');
        }

        private int signHere() {
            boolean there = place >= 0 && place < length && place < signs.length;
            return there ? signs[place] : NO_SIGN;
        }

        private boolean readKind() {
            int sign = signHere();
            switch (sign) {
                case 'b':
                case 'i':
                case 'f':
                case 'o':
                case 'r':
                case 'w':
                    kind = (char) sign;
                    place++;
                    return true;
                default:
                    return false;
            }
        }

        private boolean readSign(char wanted) {
            if (signHere() != wanted) {
                return false;
            }
            place++;
            return true;
        }

        private int readNumber() {
            int number = readDigit();
            if (number == NO_NUMBER) {
                return NO_NUMBER;
            }
            int digit = readDigit();
            return digit == NO_NUMBER ? number : number * 10 + digit;
        }

        private int readDigit() {
            int sign = signHere();
            if (sign < '0' || sign > '9') {
                return NO_NUMBER;
            }
            place++;
            return sign - '0';
        }
    }

    /** Does the orders of a text in a house, up to the fault. */
    private static final class Rehearsal {
        private int orders;
        private int position;
        private int reason;
        private int cause;

        void run(OrderText text, House house) {
            orders = 0;
            reason = NO_FAULT;
            text.goToStart();
            for (int i = 0; i < LONGEST_TEXT && reason == NO_FAULT && text.hasMore(); i++) {
                if (text.readOrder()) {
                    takeAnswer(text.start, house.obey(text.kind, text.one, text.other));
                } else {
                    stopAt(text.start, NOT_OF_THE_FORM, text.brokeOffAt());
                }
            }
        }

        private void takeAnswer(int start, int answer) {
            if (isError(answer)) {
                stopAt(start, NOT_DONE, answer);
            } else {
                orders++;
            }
        }

        private void stopAt(int start, int why, int causedBy) {
            position = start;
            reason = why;
            cause = causedBy;
        }

        int ordersDone() {
            return reason == NO_FAULT ? orders : NOT_POSSIBLE;
        }

        int factOfFault(int what) {
            if (reason == NO_FAULT) {
                return NOT_FOUND;
            }
            if (what == 0) {
                return position;
            }
            return what == 1 ? reason : cause;
        }
    }
}
