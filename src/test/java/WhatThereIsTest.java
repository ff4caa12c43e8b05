/** Promises 12 to 16: boilerOf, paperOf, inspectorOf, why, account. */
public final class WhatThereIsTest {
    public static void main(String[] args) {
        promise12BoilerOf();
        promise12NotFound();
        promise12Errors();
        promise13PaperOf();
        promise14InspectorOf();
        promise15Why();
        promise15Errors();
        promise16Account();
        Check.finish();
    }

    private static void promise12BoilerOf() {
        Script.run("Returns something of a boiler (0 to 9, in each condition)", """
            boiler(21) | inspector(0, 1) | boilerOf(0, 0..9) = 21 21 0 0 1 - 0 - - 21
            inspect(0, 0) = 21 | press(0, 20) = 21 | plan(0, 30, 5) = 34
            boilerOf(0, 0..9) = 21 20 0 0 1 - 0 30 34 21
            fire(0) = 53 | boilerOf(0, 0..9) = 21 20 0 1 - - 0 30 34 21
            pass(7) = 0 | boilerOf(0, 0..9) = 21 20 21 1 - - 0 30 34 18
            out(0) = 21 | boilerOf(0, 0..9) = 21 20 21 0 0 - 0 30 34 18
            set(0, 20) = 120 | pass(1) = 0 | inspect(0, 0) = 0 | boilerOf(0, 0..9) = 21 20 21 0 1 - 1 30 34 18
            repair(0) = 3 | boilerOf(0, 0..9) = 21 20 21 2 - 3 1 30 34 18
            pass(2) = 0 | boilerOf(0, 0..9) = 21 20 21 2 - 1 1 30 34 18
            pass(1) = 0 | boilerOf(0, 0..9) = 21 20 5 0 0 - 0 30 34 20
            """);
    }

    private static void promise12NotFound() {
        Script.run("NOT_FOUND for 4 if it is not cold, for 5 if it is not in repair, for 7 and 8 if none is planned",
            """
            boiler(10) | inspector(0, 1) | boilerOf(0, 4..5) = 1 - | boilerOf(0, 7..8) = - | inspect(0, 0) = 10
            fire(0) = 53
            boilerOf(0, 4..5) = - | plan(0, 1, 1) = 1 | boilerOf(0, 7..8) = 1 1 | pass(1) = 1
            boilerOf(0, 4..5) = 0 -
            boilerOf(0, 7..8) = 1 1 | repair(0) = 1 | boilerOf(0, 4..5) = - 1 | boilerOf(0, 7..8) = 1 1
            pass(1) = 0 | boilerOf(0, 4..5) = 0 - | boilerOf(0, 7..8) = -
            """);
    }

    private static void promise12Errors() {
        Script.run("boilerOf: INVALID_ARGUMENT if an argument is out of range", """
            boiler(10) | inspector(0, 1) | boilerOf(0, -1) = INVALID | boilerOf(0, 10) = INVALID
            boilerOf(0, MIN) = INVALID
            boilerOf(0, MAX) = INVALID | boilerOf(-1, 0) = INVALID | boilerOf(1, 0) = INVALID
            boilerOf(1, 5) = INVALID
            boilerOf(MIN, 0) = INVALID | boilerOf(MAX, 9) = INVALID | boilerOf(1, 10) = INVALID
            boilerOf(0, 100) = INVALID
            """);
    }

    private static void promise13PaperOf() {
        Script.run("Returns something of the paper of a boiler; NOT_FOUND if it has none", """
            boiler(20) | inspector(1, 2) | paperOf(0, 0..2) = NOT_FOUND | paperOf(0, -1) = INVALID
            paperOf(0, 3) = INVALID
            paperOf(1, 0) = INVALID | paperOf(-1, 0) = INVALID | paperOf(0, MIN) = INVALID
            paperOf(MAX, 0) = INVALID
            pass(3) = 0 | inspect(0, 0) = 18 | paperOf(0, 0..2) = 1 18 43 | paperOf(0, -1) = INVALID
            paperOf(0, 3) = INVALID
            paperOf(1, 0) = INVALID | paperOf(-1, 0) = INVALID | paperOf(0, MAX) = INVALID
            paperOf(MIN, 0) = INVALID
            press(0, 1) = 20 | fire(0) = 41 | pass(40) = 0 | paperOf(0, 0..2) = 1 18 43 | pass(1) = 1
            paperOf(0, 0..2) = NOT_FOUND
            """);
    }

    private static void promise14InspectorOf() {
        Script.run("Returns something of an inspector", """
            inspectorOf(0, 0) = INVALID | boiler(2) | inspector(0, 3) | inspector(1, 2)
            inspectorOf(1, 0..4) = 1 2 2 0 0
            inspect(0, 1) = 1 | inspectorOf(1, 0..4) = 1 2 1 1 1 | inspect(0, 1) = 1
            inspectorOf(1, 0..4) = 1 2 0 2 2
            inspect(0, 1) = NOT_POSSIBLE | inspectorOf(1, 0..4) = 1 2 0 2 2 | inspectorOf(0, 0..4) = 0 3 3 0 0
            set(1, 0) = 90 | press(0, 1) = 2 | fire(0) = 41 | pass(1) = 0 | out(0) = 1 | pass(1) = 0
            inspectorOf(1, 0..4) = 1 2 2 2 2 | inspect(0, 1) = 0 | inspectorOf(1, 0..4) = 1 2 1 3 2
            """);
        Script.run("inspectorOf: INVALID_ARGUMENT if an argument is out of range", """
            inspector(0, 3) | inspector(1, 2) | inspectorOf(0, -1) = INVALID | inspectorOf(0, 5) = INVALID
            inspectorOf(2, 0) = INVALID
            inspectorOf(-1, 0) = INVALID | inspectorOf(0, MIN) = INVALID | inspectorOf(0, MAX) = INVALID
            inspectorOf(MIN, 0) = INVALID | inspectorOf(MAX, 4) = INVALID | inspectorOf(2, 5) = INVALID
            """);
    }

    private static void promise15Why() {
        Script.run("Tells why a boiler may not be fired, or cannot be inspected. Returns the reason", """
            boiler(10) | inspector(1, 1) | why(0, -1..0) = 5 0 | inspect(0, 0) = 9 | why(0, -1..0) = 6 5
            press(0, 9) = 10 | why(0, -1..0) = 0 5 | plan(0, 0, 1) = 0 | why(0, -1..0) = 4 5 | pass(1) = 0
            why(0, -1..0) = 0 0 | fire(0) = 40 | why(0, -1..0) = 2 2 | pass(1) = 0 | out(0) = 1
            why(0, -1..0) = 0 3
            pass(1) = 0 | why(0, -1..0) = 0 0 | set(1, 0) = 90 | inspect(0, 0) = 0 | why(0, -1..0) = 3 4
            repair(0) = 1 | why(0, -1..0) = 1 1 | pass(1) = 0 | why(0, -1..0) = 5 3
            """);
    }

    private static void promise15Errors() {
        Script.run("number of the inspector, or -1; INVALID_ARGUMENT if an argument is out of range", """
            boiler(10) | why(0, -1) = 5 | why(0, 0) = INVALID | inspector(0, 1) | why(0, 0) = 0
            why(0, 1) = INVALID
            why(0, -2) = INVALID | why(0, MIN) = INVALID | why(0, MAX) = INVALID | why(1, -1) = INVALID
            why(-1, -1) = INVALID
            why(1, 0) = INVALID | why(MIN, -1) = INVALID | why(MAX, 0) = INVALID | why(-1, 1) = INVALID
            """);
    }

    private static void promise16Account() {
        Script.run("Returns an account: 0 and 1: the insurers; 2: the shop; 3: the owner", """
            boiler(10) | inspector(0, 1) | inspector(1, 1) | account(0..3) = 0 | inspect(0, 0) = 10
            account(0..3) = 8 0 0 -8
            set(2, 99) = 8 | inspect(0, 1) = 9 | account(0..3) = 8 99 0 -107 | set(3, 50) = 15 | repair(0) = 1
            account(0..3) = 8 99 50 -157 | count(7) = 0 | undo() = 3 | account(0..3) = 8 99 0 -107
            """);
        Script.run("account: INVALID_ARGUMENT if whose is out of range", """
            account(-1) = INVALID | account(4) = INVALID | account(MIN) = INVALID | account(MAX) = INVALID
            account(0..3) = 0
            """);
    }
}
