/** Terms: texts. */
public final class TermsOfTextsTest {
    private static final String BASE = "boiler(20) = 0 | inspector(0, 1) = 0 | inspector(1, 3) = 1\n";

    public static void main(String[] args) {
        atMost60Characters();
        firstCharacter();
        secondCharacter();
        characterBehindANumber();
        commaAndSecondNumber();
        numbersOfOneOrTwoDigits();
        textEndsTooEarly();
        noSuchOrder();
        positionOfTheFault();
        firstOrderThatIsNotPossible();
        ordersAheadOfIt();
        causeIsTheErrorCode();
        textOfBeforeIsNotRead();
        Check.finish();
    }

    private static String digits(int from, int to) {
        return from + ".." + to;
    }

    /** A text with a fault: what fault tells of it, and that play is not possible. */
    private static void fault(String title, String text, int position, int reason, String cause) {
        Script.run(title, BASE, "text \"" + text + "\"\nfault(" + digits(0, 2) + ") = " + position + " " + reason + " "
            + cause + "\nplay() = NOT_POSSIBLE | count(14) = " + text.length());
    }

    /** A text without a fault, and how many orders are in it. */
    private static void plays(String title, String text, int orders) {
        Script.run(title, BASE, "text \"" + text + "\"\nfault(0..2) = NOT_FOUND | play() = " + orders
            + " | count(14) = " + text.length());
    }

    private static void atMost60Characters() {
        Script.run("There is a text of at most 60 characters, initially empty", """
            count(14) = 0 | fault(0..2) = NOT_FOUND | play() = 0 | clearText() = 0 | count(14) = 0
            59 x type(120) | count(14) = 59 | type(121) = 60 | count(14) = 60 | type(122) = LIMIT | count(14) = 60
            type(31) = INVALID | type(127) = INVALID | fault(0..2) = 0 1 0
            clearText() = 60 | count(14) = 0 | fault(0) = NOT_FOUND | type(98) = 1 | fault(0..2) = 0 1 1
            """);
        plays("a text of 60 characters", "w1;w1;w1;w1;w1;w1;w1;w1;w1;w1;w1;w1;w1;w1;w1;w1;w1;w1;w1;w1;", 20);
        plays("a text of 60 characters", "w60;w60;w60;w60;w60;w60;w60;w60;w60;w60;w60;w60;w60;w60;w60;", 15);
        plays("a text of 60 characters", "i00,01;i00,01;i00,01;w01;i0,1;i0,1;i0,1;w1;i0,0;f0;o0;r0;w2;", 13);
        fault("a text of 60 characters", "w60;w60;w60;w60;w60;w60;w60;w60;w60;w60;w60;w60;w60;w60;w600", 56, 1, "3");
        fault("a text of 60 characters", "w60;w60;w60;w60;w60;w60;w60;w60;w60;w60;w60;w60;w60;w60;w6;w", 59, 1, "1");
        fault("a text of 60 characters", "w60;w60;w60;w60;w60;w60;w60;w60;w60;w60;w60;w60;w60;w60;w6;x", 59, 1, "0");
        fault("a text of 60 characters", "w60;w60;w60;w60;w60;w60;w60;w60;w60;w60;w60;w60;w60;w60;;w60", 56, 1, "0");
        fault("a text of 60 characters", "w60;w60;w60;w60;w60;w60;w60;w60;w60;w60;w60;w60;w60;w60;w61;", 56, 2, "INVALID");
        fault("a text of 60 characters", "w60;w60;w60;w60;w60;w60;w60;w60;w60;w60;w60;w60;w60;w6;i0,00", 55, 1, "5");
        fault("a text of 60 characters", "xxxxxxxxxxxxxxxxxxxxxxxxxxxxxxxxxxxxxxxxxxxxxxxxxxxxxxxxxxxx", 0, 1, "0");
    }

    private static void firstCharacter() {
        for (char c = 32; c <= 126; c++) {
            int cause = "bifowr".indexOf(c) >= 0 ? 1 : 0;
            fault("\"b\", \"i\", \"f\", \"o\", \"r\" or \"w\"", String.valueOf(c), 0, 1, String.valueOf(cause));
            if (cause == 0) {
                fault("\"b\", \"i\", \"f\", \"o\", \"r\" or \"w\"", c + "9;", 0, 1, "0");
                fault("\"b\", \"i\", \"f\", \"o\", \"r\" or \"w\"", "b9;" + c + "9;", 3, 1, "0");
            }
        }
    }

    private static void secondCharacter() {
        for (char kind : "bifowr".toCharArray()) {
            for (char c = 32; c <= 126; c++) {
                boolean isDigit = c >= '0' && c <= '9';
                fault("numbers of 1 or 2 digits", "" + kind + c, 0, 1, isDigit ? "2" : "1");
                if (!isDigit) {
                    fault("numbers of 1 or 2 digits", "" + kind + c + ";", 0, 1, "1");
                }
            }
        }
    }

    private static void characterBehindANumber() {
        for (char kind : "bforw".toCharArray()) {
            for (char c = 32; c <= 126; c++) {
                boolean isDigit = c >= '0' && c <= '9';
                if (c != ';') {
                    fault("each followed by \";\"", kind + "1" + c, 0, 1, isDigit ? "3" : "2");
                    fault("each followed by \";\"", kind + "01" + c, 0, 1, "3");
                    fault("each followed by \";\"", kind + "01" + c + ";", 0, 1, "3");
                }
            }
        }
    }

    private static void commaAndSecondNumber() {
        for (char c = 32; c <= 126; c++) {
            boolean isDigit = c >= '0' && c <= '9';
            String title = "\"i\" a boiler, \",\", an inspector";
            if (c != ',') {
                fault(title, "i0" + c, 0, 1, isDigit ? "3" : "2");
                fault(title, "i00" + c, 0, 1, "3");
                fault(title, "i00" + c + "0;", 0, 1, "3");
            }
            fault(title, "i0," + c, 0, 1, isDigit ? "4" : "3");
            fault(title, "i00," + c, 0, 1, isDigit ? "5" : "4");
            if (c != ';') {
                fault(title, "i0,0" + c, 0, 1, isDigit ? "5" : "4");
                fault(title, "i00,00" + c, 0, 1, "6");
                fault(title, "i00,00" + c + ";", 0, 1, "6");
            }
            if (!isDigit) {
                fault(title, "i0," + c + ";", 0, 1, "3");
            }
        }
    }

    private static void numbersOfOneOrTwoDigits() {
        String title = "numbers of 1 or 2 digits, 0 ahead allowed";
        plays(title, "b2;b02;b40;b9;b09;b10;b39;", 7);
        plays(title, "i0,0;i00,1;i0,01;i00,01;", 4);
        plays(title, "i0,0;f0;w1;o0;w01;r0;w2;i00,00;f00;w02;o00;r00;", 12);
        plays(title, "w1;w01;w9;w09;w10;w60;", 6);
        for (char kind : "bforw".toCharArray()) {
            fault(title, kind + ";", 0, 1, "1");
            fault(title, kind + "000;", 0, 1, "3");
            fault(title, kind + "010;", 0, 1, "3");
            fault(title, kind + "123;", 0, 1, "3");
            fault(title, kind + "-1;", 0, 1, "1");
            fault(title, kind + "+1;", 0, 1, "1");
            fault(title, kind + " 1;", 0, 1, "1");
            fault(title, kind + "1 ;", 0, 1, "2");
            fault(title, kind + "0,0;", 0, 1, "2");
        }
        fault(title, "i,0;", 0, 1, "1");
        fault(title, "i;", 0, 1, "1");
        fault(title, "i000,0;", 0, 1, "3");
        fault(title, "i0,000;", 0, 1, "5");
        fault(title, "i0,-1;", 0, 1, "3");
        fault(title, "i-1,0;", 0, 1, "1");
        fault(title, "i0;", 0, 1, "2");
        fault(title, "i0,;", 0, 1, "3");
        fault(title, "i0,0,0;", 0, 1, "4");
        fault(title, "i0;0;", 0, 1, "2");
        Script.run(title + " (which numbers they are)", """
            text "b2;b02;b20;b40;b39;"
            play() = 5 | boilerOf(0..4, 0) = 2 2 20 40 39
            text "w1;w01;w10;w60;w9;"
            play() = 5 | count(2) = 81
            """);
    }

    private static void textEndsTooEarly() {
        String title = "of one that the text ends too early it is its length";
        String[] orders = {"b20;", "f00;", "o00;", "r00;", "w01;", "i00,00;", "i0,0;", "b9;", "i00,1;", "i0,01;"};
        for (String order : orders) {
            for (int length = 1; length < order.length(); length++) {
                fault(title, order.substring(0, length), 0, 1, String.valueOf(length));
                fault(title, "w1;" + order.substring(0, length), 3, 1, String.valueOf(length));
            }
        }
    }

    private static void noSuchOrder() {
        String title = "its reason is 1 if it is not of this form";
        fault(title, ";", 0, 1, "0");
        fault(title, "9;", 0, 1, "0");
        fault(title, "p0,1;", 0, 1, "0");
        fault(title, "s0,1;", 0, 1, "0");
        fault(title, "B9;", 0, 1, "0");
        fault(title, "b9;;", 3, 1, "0");
        fault(title, "b9; b9;", 3, 1, "0");
        fault(title, " b9;", 0, 1, "0");
        fault(title, "bb9;", 0, 1, "1");
        fault(title, "b9b9;", 0, 1, "2");
    }

    private static void positionOfTheFault() {
        String title = "The fault of the text is the position, from 0, of the first character of the first order";
        fault(title, "x", 0, 1, "0");
        fault(title, "w1;x", 3, 1, "0");
        fault(title, "w01;x", 4, 1, "0");
        fault(title, "i0,0;x", 5, 1, "0");
        fault(title, "i00,00;x", 7, 1, "0");
        fault(title, "w1;w1;b1;", 6, 2, "INVALID");
        fault(title, "w1;w1;b1;x", 6, 2, "INVALID");
        fault(title, "w1;w1;x;b1;", 6, 1, "0");
        fault(title, "w1;w1;w1;w1;w1;w1;w1;w1;w1;w1;w1;w1;w1;w1;w1;w1;w1;w1;w1;o0;", 57, 2, "NOT_POSSIBLE");
        plays(title + " (NOT_FOUND if the text has no fault)", "w1;w1;w1;w1;w1;w1;w1;w1;w1;w1;w1;w1;w1;w1;w1;w1;w1;w1;w1;", 19);
    }

    private static void firstOrderThatIsNotPossible() {
        String title = "the first order that is not possible";
        fault(title, "o0;x", 0, 2, "NOT_POSSIBLE");
        fault(title, "x;o0;", 0, 1, "0");
        fault(title, "o0;f0", 0, 2, "NOT_POSSIBLE");
        fault(title, "o0;b1;", 0, 2, "NOT_POSSIBLE");
        fault(title, "b1;o0;", 0, 2, "INVALID");
        fault(title, "o0", 0, 1, "2");
        fault(title, "w1;o0;w61;", 3, 2, "NOT_POSSIBLE");
        fault(title, "w1;w61;o0;", 3, 2, "INVALID");
    }

    private static void ordersAheadOfIt() {
        String title = "and otherwise 2, when those ahead of it are done";
        plays(title, "i0,0;f0;", 2);
        fault(title, "f0;i0,0;", 0, 2, "NOT_POSSIBLE");
        fault(title, "i0,0;f0;f0;", 8, 2, "NOT_POSSIBLE");
        fault(title, "i0,0;i0,0;", 5, 2, "NOT_POSSIBLE");
        plays(title, "i0,0;w1;i0,0;", 3);
        plays(title, "i0,0;f0;w52;o0;", 4);
        fault(title, "i0,0;f0;w53;o0;", 12, 2, "NOT_POSSIBLE");
        fault(title, "i0,0;f0;o0;i0,1;", 11, 2, "NOT_POSSIBLE");
        plays(title, "i0,0;f0;o0;w1;i0,1;", 5);
        plays(title, "b9;i1,0;f1;o1;r1;", 5);
        fault(title, "i1,0;b9;", 0, 2, "INVALID");
        fault(title, "b9;f2;", 3, 2, "INVALID");
        plays(title, "r0;w1;r0;", 3);
        fault(title, "r0;r0;", 3, 2, "NOT_POSSIBLE");
        plays(title, "b9;b9;b9;b9;b9;b9;b9;r7;", 8);
        fault(title, "b9;b9;b9;b9;b9;b9;b9;r8;", 21, 2, "INVALID");
        fault(title, "b9;b9;b9;b9;b9;b9;b9;b9;", 21, 2, "LIMIT");
    }

    private static void causeIsTheErrorCode() {
        String title = "with the reason 2 the error code that the call returns for it";
        String[] invalid = {"b0;", "b1;", "b00;", "b41;", "b99;", "i1,0;", "i0,2;", "i99,0;", "i0,99;", "i1,2;", "f1;",
            "f99;", "o1;", "o99;", "r1;", "r99;", "w0;", "w00;", "w61;", "w99;"};
        for (String order : invalid) {
            fault(title, order, 0, 2, "INVALID");
        }
        fault(title, "f0;", 0, 2, "NOT_POSSIBLE");
        fault(title, "o0;", 0, 2, "NOT_POSSIBLE");
        fault(title, "i0,0;f0;i0,1;", 8, 2, "NOT_POSSIBLE");
        fault(title, "i0,0;f0;r0;", 8, 2, "NOT_POSSIBLE");
        fault(title, "b9;b9;b9;b9;b9;b9;b9;b41;", 21, 2, "INVALID");
        fault(title, "b9;b9;b9;b9;b9;b9;b9;b40;", 21, 2, "LIMIT");
        Script.run(title + " (no boiler, no inspector)", """
            text "f0;"
            fault(0..2) = 0 2 INVALID
            text "b9;i0,0;"
            fault(0..2) = 3 2 INVALID
            """);
        Script.run(title + " (the last week)", Setups.HOUSE, """
            166 x pass(60) = 0
            text "w39;w1;"
            fault(0..2) = 4 2 LIMIT | play() = NOT_POSSIBLE
            text "w40;"
            fault(0..2) = 0 2 LIMIT
            text "w61;"
            fault(0..2) = 0 2 INVALID
            text "w39;"
            fault(0..2) = NOT_FOUND | play() = 1 | count(2) = 9999 | fault(0..2) = 0 2 LIMIT | play() = NOT_POSSIBLE
            """);
    }

    private static void textOfBeforeIsNotRead() {
        Script.run("clearText: Empties the text (nothing of it is read again)", BASE, """
            text "b9;b9;"
            text "b8"
            fault(0..2) = 0 1 2 | play() = NOT_POSSIBLE | type(59) = 3 | play() = 1 | boilerOf(1, 0) = 8
            count(0) = 2
            """);
    }
}
