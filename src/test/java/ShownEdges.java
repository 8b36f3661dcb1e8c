import java.util.function.IntConsumer;

/** Promises 20 to 35: what the machine shows. */
final class ShownEdges extends Edge {
    private static final String LONGEST = "pins 8; wheels 16; counter 8; stuck 0;";

    private ShownEdges() {
    }

    static void all() {
        state();
        count();
        digit();
        counterDigit();
        pin();
        numbers();
        fault();
        isLeverSet();
        jam();
        steps();
        busiest();
        logged();
        loggedKept();
        loggedRefused();
        show();
        textByte();
    }

    private static void outside(int most, IntConsumer test) {
        for (int number : new int[] {-1, most + 1, LEAST, GREATEST}) {
            test.accept(number);
        }
    }

    private static void state() {
        promise(20, "Returns a number about the machine.", () -> {
            dueRow("state of a jammed machine", row(3, 7, 5, 9, 0, 4, 1),
                at("pins 3; wheels 7; counter 5; reach 9; slip 1; slip 2; stuck 2; stuck 4;", "set 100; turn 1;")::state);
            dueRow("state of the least machine", row(2, 2, 2, 0, 0, 0, 0),
                made("pins 2; wheels 2; counter 2; reach 0;")::state);
            dueRow("state of the greatest machine", row(8, 16, 8, 16, 8, 0, 0),
                at("pins 8; wheels 16; counter 8;", "shift 8;")::state);
        });
        promise(20, "`what`: 0 n, 1 m, 2 k, 3 the reach, 4 the position of the carriage, 5 faults,"
            + " 6 whether it is jammed (1 or 0)", () -> {
            CrankCalculator x = made("pins 3; wheels 10; counter 5; reach 7; slip 1; slip 2; stuck 2;");
            x.shift(6);
            dueRow("state", row(3, 10, 5, 7, 6, 3, 0), x::state);
            x.shift(-6);
            x.setPins(100);
            x.turn(1);
            due("jammed", 1, () -> x.state(6));
            x.crankBack();
            due("not jammed", 0, () -> x.state(6));
            x.repair(2);
            due("two faults less", 1, () -> x.state(5));
        });
        promise(20, "Returns the value.", () -> {
            due("the first", 4, () -> new CrankCalculator().state(0));
            due("the last", 1, () -> jammed().state(6));
        });
        promise(20, "Throws `IllegalArgumentException` if what is out of range", () -> outside(6, what -> {
            refused(CrankCalculator::new, ARGUMENT, "state(" + what + ")", x -> x.state(what));
            dueThrow("jammed", ARGUMENT, () -> jammed().state(what));
        }));
    }

    private static void count() {
        promise(21, "Returns a count since the setup.", () -> {
            CrankCalculator x = at("stuck 1;", "set 9; turn 1;");
            x.turn(1);
            dueRow("count", row(1, 0, 0, 0, 0, 1), x::count);
            x.setup();
            dueRow("count behind a setup", row(0, 0, 0, 0, 0, 0), x::count);
            CrankCalculator y = at("", "set 5; turn 2; clear;");
            dueRow("count behind clearing", row(2, 0, 0, 1, 0, 0), y::count);
        });
        promise(21, "`what`: 0 turns that were finished, 1 those of them back, 2 rings of the bell,"
            + " 3 carries by levers that moved a wheel, 4 carries that were lost, 5 jams", () -> {
            // 55 + 55 = 10, as one carry is lost; 010 - 550 = 460 with a carry and the bell; then wheel 2 jams
            CrankCalculator x = at("pins 2; wheels 3; reach 0;", "set 55; turn 2; shift 1; turn -1;");
            x.damage(2, 2);
            x.turn(1);
            dueRow("count", row(3, 1, 1, 2, 1, 1), x::count);
            x.free();
            dueRow("count, finished", row(4, 1, 2, 3, 1, 1), x::count);
            due("a jammed turn back is not finished", 0, () -> at("stuck 0;", "set 1; turn -1;").count(1));
            due("jams of one turn", 2, () -> {
                CrankCalculator y = at("stuck 0; stuck 1;", "set 11; turn 1;");
                y.free();
                return y.count(5);
            });
        });
        promise(21, "Returns the count.", () -> {
            due("of no turns", 0, () -> new CrankCalculator().count(0));
            due("of many turns", 40 * 99, () -> at("", "turn 99;".repeat(40)).count(0));
        });
        promise(21, "Throws `IllegalArgumentException` if what is out of range", () -> outside(5,
            what -> refused(CrankCalculator::new, ARGUMENT, "count(" + what + ")", x -> x.count(what))));
    }

    private static void digit() {
        promise(22, "Returns a digit of the result.", () -> dueRow("digit", row(0, 0, 2, 4, 6, 0, 0, 0),
            at("", "set 321; shift 2; turn 2;")::digit));
        promise(22, "`wheel`: number of a result wheel", () -> {
            CrankCalculator x = at("pins 3; wheels 6;", "set 123; shift 3; turn 6; shift -3; set 1; turn 1;");
            due("0", 1, () -> x.digit(0));
            due("m - 1", 7, () -> x.digit(5));
            due("the sixteenth", 8, () -> at("pins 8; wheels 16;", "shift 8; set 80000000; turn 1;").digit(15));
        });
        promise(22, "Returns 0 to 9.", () -> {
            due("the least", 0, () -> at("", "set 1; turn 10;").digit(0));
            due("the greatest", 9, () -> at("", "set 1; turn -1;").digit(7));
        });
        promise(22, "Throws `IndexOutOfBoundsException` if there is no such wheel", () -> {
            outside(7, wheel -> refused(CrankCalculator::new, INDEX, "digit(" + wheel + ")", x -> x.digit(wheel)));
            dueThrow("of fewer wheels", INDEX, () -> made("wheels 5;").digit(5));
            dueThrow("of 16 wheels", INDEX, () -> made("wheels 16;").digit(16));
        });
    }

    private static void counterDigit() {
        promise(23, "Returns a digit of the counter.", () -> dueRow("counterDigit", row(3, 4, 5),
            at("counter 3;", "turn 3; shift 1; turn 4; shift 1; turn 5;")::counterDigit));
        promise(23, "`wheel`: number of a counter wheel", () -> {
            due("0", 1, () -> at("counter 2;", "turn 1;").counterDigit(0));
            due("k - 1", 1, () -> at("counter 2;", "shift 1; turn 1;").counterDigit(1));
            due("the eighth", 9, () -> at("counter 8;", "turn -1;").counterDigit(7));
        });
        promise(23, "Returns 0 to 9.", () -> {
            due("the least", 0, () -> at("", "turn 10;").counterDigit(0));
            due("the greatest", 9, () -> at("", "turn -1;").counterDigit(0));
        });
        promise(23, "Throws `IndexOutOfBoundsException` if there is no such wheel", () -> {
            outside(3, wheel -> refused(CrankCalculator::new, INDEX, "counterDigit(" + wheel + ")",
                x -> x.counterDigit(wheel)));
            dueThrow("of 2 wheels", INDEX, () -> made("counter 2;").counterDigit(2));
            dueThrow("of 8 wheels", INDEX, () -> made("counter 8;").counterDigit(8));
            dueThrow("a result wheel", INDEX, () -> made("counter 2;").counterDigit(7));
        });
    }

    private static void pin() {
        promise(24, "Returns the digit of a pin.",
            () -> dueRow("pin", row(1, 2, 3, 4, 5), at("pins 5;", "set 54321;")::pin));
        promise(24, "`pin`: number of a pin", () -> {
            due("0", 2, () -> at("pins 2;", "set 12;").pin(0));
            due("n - 1", 1, () -> at("pins 2;", "set 12;").pin(1));
            due("the eighth", 8, () -> at("pins 8;", "set 80000000;").pin(7));
        });
        promise(24, "Returns 0 to 9.", () -> {
            due("the least", 0, () -> at("", "set 9990;").pin(0));
            due("the greatest", 9, () -> at("", "set 9;").pin(0));
        });
        promise(24, "Throws `IndexOutOfBoundsException` if there is no such pin", () -> {
            outside(3, pin -> refused(CrankCalculator::new, INDEX, "pin(" + pin + ")", x -> x.pin(pin)));
            dueThrow("of 2 pins", INDEX, () -> made("pins 2;").pin(2));
            dueThrow("of 8 pins", INDEX, () -> made("pins 8;").pin(8));
        });
    }

    private static void numbers() {
        promise(25, "Returns the result.", () -> {
            due("of a new machine", 0, () -> new CrankCalculator().result());
            due("of some turns", 36, () -> at("", "set 12; turn 3;").result());
            due("of an unfinished turn", 2, () -> at("stuck 1;", "set 12; turn 1;").result());
        });
        promise(25, "Returns the number.", () -> {
            due("the greatest of 2 wheels", 99, () -> at("pins 2; wheels 2;", "set 1; turn -1;").result());
            due("the greatest of all", 9999999999999999L, () -> at("wheels 16;", "set 1; turn -1;").result());
            due("beyond an int", 1234567890000000L, () -> at("pins 8; wheels 16;",
                "shift 8; set 12345678; turn 1; shift -8; set 90000000; turn 1;").result());
        });
        promise(26, "Returns the counter.", () -> {
            due("of a new machine", 0, () -> new CrankCalculator().counter());
            due("of some turns", 3, () -> at("", "set 12; turn 3;").counter());
            due("not of an unfinished turn", 0, () -> at("stuck 1;", "set 12; turn 1;").counter());
        });
        promise(26, "Returns the number.", () -> {
            due("the greatest of 2 wheels", 99, () -> at("counter 2;", "turn -1;").counter());
            due("the greatest of all", 99999999, () -> at("counter 8;", "turn -1;").counter());
            due("places", 5043, () -> at("", "turn 3; shift 1; turn 4; shift 2; turn 5;").counter());
        });
        promise(27, "Returns the complement of the result: 10 to the power of m minus the result.", () -> {
            due("of 0", 100000000, () -> new CrankCalculator().complement());
            due("of 1", 99999999, () -> at("", "set 1; turn 1;").complement());
            due("of 42 with 2 wheels", 58, () -> at("pins 2; wheels 2;", "set 42; turn 1;").complement());
        });
        promise(27, "Returns the number.", () -> {
            due("the least", 1, () -> at("wheels 16;", "set 1; turn -1;").complement());
            due("the least of 2 wheels", 1, () -> at("pins 2; wheels 2;", "set 99; turn 1;").complement());
            due("the greatest", 10000000000000000L, () -> made("wheels 16;").complement());
            due("the greatest of 2 wheels", 100, () -> made("pins 2; wheels 2;").complement());
        });
    }

    private static void fault() {
        promise(28, "Returns the faults of a wheel.", () -> {
            CrankCalculator x = made("slip 0; slip 3; stuck 7;");
            dueRow("fault", row(1, 0, 0, 1, 0, 0, 0, 2), x::fault);
            x.damage(3, 2);
            x.repair(0);
            dueRow("fault", row(0, 0, 0, 3, 0, 0, 0, 2), x::fault);
        });
        promise(28, "`wheel`: number of a result wheel", () -> {
            due("0", 1, () -> made("slip 0;").fault(0));
            due("m - 1", 2, () -> made("wheels 5; stuck 4;").fault(4));
            due("the sixteenth", 3, () -> made("wheels 16; slip 15; stuck 15;").fault(15));
        });
        promise(28, "Returns 0 none, 1 its lever slips, 2 it is stuck, 3 both.", () -> dueRow("fault", row(0, 1, 2, 3),
            made("pins 2; wheels 4; slip 1; stuck 2; stuck 3; slip 3;")::fault));
        promise(28, "Throws `IndexOutOfBoundsException` if there is no such wheel", () -> {
            outside(7, wheel -> refused(CrankCalculator::new, INDEX, "fault(" + wheel + ")", x -> x.fault(wheel)));
            dueThrow("of fewer wheels", INDEX, () -> made("wheels 5;").fault(5));
            dueThrow("of 16 wheels", INDEX, () -> made("wheels 16;").fault(16));
        });
    }

    private static void isLeverSet() {
        promise(29, "Tells whether the lever of a wheel is set, in a turn that jams.", () -> {
            CrankCalculator x = at("pins 4; wheels 6; stuck 3;", "set 555; turn 1; set 5555; turn 1;");
            dueRow("isLeverSet in the part of the pins", row(1, 1, 1, 0, 0, 0), w -> x.isLeverSet(w) ? 1 : 0);
            CrankCalculator y = at("pins 4; wheels 6; stuck 3;", "set 555; turn 2;");
            dueRow("isLeverSet in the part of the levers", row(0, 0, 1, 0, 0, 0), w -> y.isLeverSet(w) ? 1 : 0);
        });
        promise(29, "`wheel`: number of a result wheel", () -> {
            isTrue("0", () -> at("stuck 1;", "set 1; turn -1;").isLeverSet(0));
            isFalse("m - 1, not set", () -> at("stuck 1;", "set 1; turn -1;").isLeverSet(7));
            isTrue("m - 1", () -> at("pins 3; wheels 3; stuck 1;", "set 505; turn 2;").isLeverSet(2));
            isTrue("the sixteenth", () -> at("pins 3; wheels 16; stuck 14;", "shift 13; set 505; turn 2;").isLeverSet(15));
        });
        promise(29, "Returns whether it is.", () -> {
            isTrue("set", () -> at("stuck 2;", "set 50; turn 2;").isLeverSet(1));
            isFalse("not set", () -> at("stuck 2;", "set 50; turn 2;").isLeverSet(0));
            isFalse("released", () -> at("stuck 2;", "set 1; turn -1;").isLeverSet(0));
            isFalse("not jammed", () -> at("", "set 50; turn 2;").isLeverSet(1));
        });
        promise(29, "Throws `IndexOutOfBoundsException` if there is no such wheel", () -> {
            outside(7, wheel -> {
                refused(CrankCalculator::new, INDEX, "isLeverSet(" + wheel + ")", x -> x.isLeverSet(wheel) ? 1 : 0);
                dueThrow("jammed", INDEX, () -> jammed().isLeverSet(wheel) ? 1 : 0);
            });
            dueThrow("of fewer wheels", INDEX, () -> made("wheels 5;").isLeverSet(5) ? 1 : 0);
            dueThrow("of 16 wheels", INDEX, () -> made("wheels 16;").isLeverSet(16) ? 1 : 0);
        });
    }

    private static void jam() {
        promise(30, "Returns a number about the jam.", () -> dueRow("jam", row(0, 0, 1), jammed()::jam));
        promise(30, "`what`: 0 the wheel, 1 the part of the turn (0 pins, 1 levers), 2 the direction (1 forward, -1 back)",
            () -> {
                dueRow("jam by a pin, back", row(4, 0, -1), at("pins 3; stuck 4;", "shift 2; set 100; turn -1;")::jam);
                dueRow("jam by a carry", row(2, 1, 1), at("stuck 2;", "set 50; turn 2;")::jam);
                dueRow("jam by a carry, back", row(2, 1, -1), at("stuck 2;", "set 50; turn -1;")::jam);
                dueRow("jam by the last pin", row(5, 0, 1), at("pins 3; stuck 5;", "shift 3; set 100; turn 1;")::jam);
                dueRow("jam by the carry of the last pin", row(6, 1, 1),
                    at("pins 3; stuck 6;", "shift 3; set 500; turn 2;")::jam);
                dueRow("jam at the highest wheel", row(15, 1, -1), at("wheels 16; stuck 15;", "set 1; turn -1;")::jam);
                dueRow("jam in dividing", row(4, 0, -1), at("stuck 4;", "set 1; divide;")::jam);
            });
        promise(30, "Returns the value.", () -> {
            CrankCalculator x = at("stuck 0; stuck 1;", "set 11; turn -1;");
            due("the first wheel", 0, () -> x.jam(0));
            x.free();
            due("the next wheel", 1, () -> x.jam(0));
        });
        promise(30, "Throws `IllegalStateException` if the machine is not jammed", () -> {
            for (int what : new int[] {0, 1, 2, 3, -1, LEAST, GREATEST}) {
                refused(CrankCalculator::new, STATE, "jam(" + what + ")", x -> x.jam(what));
            }
            dueThrow("finished", STATE, () -> at("", "set 5; turn 2;").jam(0));
            CrankCalculator x = jammed();
            x.free();
            dueThrow("freed", STATE, () -> x.jam(0));
            CrankCalculator y = jammed();
            y.crankBack();
            dueThrow("cranked back", STATE, () -> y.jam(0));
        });
        promise(30, "Throws `IllegalArgumentException` if what is out of range",
            () -> outside(2, what -> refused(Edge::jammed, ARGUMENT, "jam(" + what + ")", x -> x.jam(what))));
    }

    private static void steps() {
        promise(31, "Returns how many steps a result wheel has made since the setup; steps of turns that were cranked"
            + " back count twice, forth and back.", () -> {
            CrankCalculator x = at("pins 2; wheels 4;", "set 99; turn 2;");
            dueRow("steps forward", row(18, 19, 1, 0), x::steps);
            x.turn(-1);
            dueRow("steps back", row(27, 29, 2, 0), x::steps);
            x.clear(0);
            dueRow("no steps by clearing", row(27, 29, 2, 0), x::steps);
            x.undo();
            x.undo();
            dueRow("steps undone", row(18, 19, 1, 0), x::steps);
            CrankCalculator y = at("pins 2; wheels 4; stuck 2;", "set 99; turn 2;");
            dueRow("steps in the jam", row(18, 19, 0, 0), y::steps);
            y.crankBack();
            dueRow("steps forth and back", row(27, 29, 0, 0), y::steps);
            y.setup();
            dueRow("steps since the setup", row(0, 0, 0, 0), y::steps);
        });
        promise(31, "`wheel`: number of a result wheel", () -> {
            due("0", 3, () -> at("", "set 3; turn 1;").steps(0));
            due("m - 1", 3, () -> at("pins 5; wheels 5;", "set 30000; turn 1;").steps(4));
            due("the sixteenth", 1, () -> at("wheels 16;", "set 1; turn -1;").steps(15));
        });
        promise(31, "Returns the number of steps.", () -> {
            due("none", 0, () -> new CrankCalculator().steps(0));
            due("ten in a turn", 10, () -> at("pins 2; wheels 3;", "set 9; turn 1; set 91; turn 1;").steps(1));
            due("many", 9 * 99 * 39, () -> at("", "set 9;" + "turn 99;".repeat(39)).steps(0));
        });
        promise(31, "Throws `IndexOutOfBoundsException` if there is no such wheel", () -> {
            outside(7, wheel -> refused(CrankCalculator::new, INDEX, "steps(" + wheel + ")", x -> x.steps(wheel)));
            dueThrow("of fewer wheels", INDEX, () -> made("wheels 5;").steps(5));
            dueThrow("of 16 wheels", INDEX, () -> made("wheels 16;").steps(16));
        });
    }

    private static void busiest() {
        promise(32, "Returns the result wheel that has made the most steps; the lowest one wins a tie.", () -> {
            due("no steps", 0, () -> new CrankCalculator().busiest());
            due("a tie of all pins", 0, () -> at("", "set 1111; turn 1;").busiest());
            due("a tie of the upper ones", 2, () -> at("", "set 9901; turn 1;").busiest());
            due("one step more", 3, () -> at("", "set 9801; turn 1;").busiest());
            due("steps back count too", 1, () -> at("", "set 12; turn 1; set 20; turn -1;").busiest());
        });
        promise(32, "Returns its number.", () -> {
            due("the lowest", 0, () -> at("", "set 1; turn 1;").busiest());
            due("the highest", 7, () -> at("", "shift 4; set 1000; turn 1;").busiest());
            due("the sixteenth", 15, () -> at("pins 8; wheels 16;", "shift 8; set 10000000; turn 1;").busiest());
        });
    }

    private static void logged() {
        promise(33, "Returns a number about a turn that was finished; the latest 30 ones are kept.", () -> {
            CrankCalculator x = made("");
            for (int i = 1; i <= 30; i++) {
                x.setPins(i);
                x.turn(1);
            }
            due("the oldest of 30", 1, () -> x.logged(0, 2));
            due("the latest of 30", 30, () -> x.logged(29, 2));
            x.setPins(31);
            x.turn(1);
            due("the oldest of 31", 2, () -> x.logged(0, 2));
            due("the latest of 31", 31, () -> x.logged(29, 2));
            dueThrow("no more than 30", ELEMENT, () -> x.logged(30, 2));
            x.turn(29);
            due("the oldest of 60", 31, () -> x.logged(0, 2));
            x.setPins(7);
            x.turn(-1);
            due("the oldest of 61", 31, () -> x.logged(0, 2));
            due("the latest of 61", 7, () -> x.logged(29, 2));
            due("the latest but one", 31, () -> x.logged(28, 2));
        });
        promise(33, "`index`: index among those that are kept, from 0 for the oldest one", () -> {
            CrankCalculator x = at("", "set 1; turn 1; set 2; turn 1; set 3; turn 1;");
            dueRow("logged", row(1, 2, 3), index -> x.logged(index, 2));
            CrankCalculator y = at("", "set 1; turn 1; set 2; turn 98;");
            y.setPins(3);
            y.turn(2);
            due("the oldest", 2, () -> y.logged(0, 2));
            due("the last but two", 2, () -> y.logged(27, 2));
            due("the last but one", 3, () -> y.logged(28, 2));
            due("the last", 3, () -> y.logged(29, 2));
        });
    }

    private static void loggedKept() {
        promise(33, "`what`: 0 its direction (1 forward, -1 back), 1 the position of the carriage,"
            + " 2 the number of the pins, 3 whether the bell rang in it (1 or 0)", () -> {
            CrankCalculator x = at("pins 3; wheels 6;", "set 123; turn 1; shift 3; set 40; turn -2; shift -1; set 0; turn 1;");
            dueRow("the first turn", row(1, 0, 123, 0), what -> x.logged(0, what));
            dueRow("the second turn", row(-1, 3, 40, 1), what -> x.logged(1, what));
            dueRow("the third turn", row(-1, 3, 40, 0), what -> x.logged(2, what));
            dueRow("the fourth turn", row(1, 2, 0, 0), what -> x.logged(3, what));
            CrankCalculator y = at("pins 8; wheels 16;", "shift 8; set 99999999; turn 2;");
            dueRow("the greatest numbers", row(1, 8, 99999999, 1), what -> y.logged(1, what));
        });
        promise(33, "Returns the value.", () -> {
            CrankCalculator x = at("pins 2; wheels 2;", "set 50; divide;");
            dueRow("the turn back of dividing", row(-1, 0, 50, 1), what -> x.logged(0, what));
            dueRow("its turn forward", row(1, 0, 50, 1), what -> x.logged(1, what));
        });
    }

    private static void loggedRefused() {
        promise(33, "Throws `NoSuchElementException` if there is no such turn", () -> {
            dueThrow("none yet", ELEMENT, () -> new CrankCalculator().logged(0, 0));
            for (int index : new int[] {-1, 3, 29, 30, LEAST, GREATEST}) {
                refused(() -> at("", "turn 3;"), ELEMENT, "logged(" + index + ", 0)", x -> x.logged(index, 0));
                dueThrow("before what", ELEMENT, () -> at("", "turn 3;").logged(index, 4));
                dueThrow("before what", ELEMENT, () -> at("", "turn 3;").logged(index, -1));
            }
            dueThrow("of 30", ELEMENT, () -> at("", "turn 30;").logged(30, 0));
            dueThrow("of 99", ELEMENT, () -> at("", "turn 99;").logged(30, 0));
            dueThrow("a turn that jams", ELEMENT, () -> jammed().logged(0, 0));
            CrankCalculator x = jammed();
            x.free();
            due("finished later", 1, () -> x.logged(0, 2));
            x.undo();
            dueThrow("undone", ELEMENT, () -> x.logged(0, 0));
            x.setup();
            dueThrow("behind a setup", ELEMENT, () -> x.logged(0, 0));
        });
        promise(33, "Throws `IllegalArgumentException` if what is out of range", () -> outside(3,
            what -> refused(() -> at("", "turn 3;"), ARGUMENT, "logged(2, " + what + ")", x -> x.logged(2, what))));
    }

    private static void show() {
        promise(34, "Writes what is shown, which is kept for textByte: the digits of the result, from the highest wheel on,"
            + " with the character ^ ahead of the digit of the wheel c + n - 1; a blank; the digits of the counter; a"
            + " blank; those of the pins; and, if the machine is jammed, the character !.", () -> {
            String machine = "pins 3; wheels 6; counter 2; stuck 5;";
            dueText("new", "000^000 00 000", shown(made(machine)));
            dueText("turned", "000^492 04 123", shown(at(machine, "set 123; turn 4;")));
            dueText("shifted", "00^0492 04 123", shown(at(machine, "set 123; turn 4; shift 1;")));
            dueText("at the highest position", "^000492 04 123", shown(at(machine, "set 123; turn 4; shift 3;")));
            dueText("jammed", "^000000 00 100!", shown(at(machine, "shift 3; set 100; turn 1;")));
            CrankCalculator x = at(machine, "shift 3; set 100; turn 1;");
            x.free();
            dueText("finished", "^100000 00 100", shown(x));
            dueText("the least", "^00 00 00", shown(made("pins 2; wheels 2; counter 2;")));
            dueText("the longest", "00000000^00000000 00000000 12345678!", shown(at(LONGEST, "set 12345678; turn 1;")));
            dueText("all nines", "9999^9999 9999 0001", shown(at("", "set 1; turn -1;")));
        });
        promise(34, "Returns the length of the text.", () -> {
            due("the least", 9, () -> made("pins 2; wheels 2; counter 2;").show());
            due("at first", 19, () -> new CrankCalculator().show());
            due("jammed", 20, () -> jammed().show());
            due("the longest", 36, () -> at(LONGEST, "set 12345678; turn 1;").show());
            CrankCalculator x = new CrankCalculator();
            due("once", 19, x::show);
            due("twice", 19, x::show);
        });
    }

    private static void textByte() {
        promise(35, "Returns a byte of the text that was written last.", () -> {
            CrankCalculator x = at("", "set 7;");
            x.show();
            x.setPins(8);
            due("not written anew", '7', () -> x.textByte(18));
            x.show();
            due("written anew", '8', () -> x.textByte(18));
            x.undo();
            due("not undone", '8', () -> x.textByte(18));
            setup(x, "pins 2; wheels 2; counter 2;");
            due("kept behind a setup", '8', () -> x.textByte(18));
            x.show();
            due("written anew, shorter", '^', () -> x.textByte(0));
            dueThrow("written anew, shorter", ELEMENT, () -> x.textByte(18));
        });
        promise(35, "`index`: index of the byte, from 0", () -> {
            CrankCalculator x = at("", "set 1234; turn 5;");
            x.show();
            due("the first byte", '0', () -> x.textByte(0));
            due("the mark", '^', () -> x.textByte(4));
            due("behind the mark", '6', () -> x.textByte(5));
            due("a blank", ' ', () -> x.textByte(9));
            due("a blank", ' ', () -> x.textByte(14));
            due("the last byte", '4', () -> x.textByte(18));
        });
        promise(35, "Returns the byte.", () -> {
            CrankCalculator x = jammed();
            x.show();
            due("a digit", 48, () -> x.textByte(0));
            due("the mark", 94, () -> x.textByte(4));
            due("a blank", 32, () -> x.textByte(9));
            due("jammed", 33, () -> x.textByte(19));
        });
        promise(35, "Throws `NoSuchElementException` if there is no such byte", () -> {
            dueThrow("no text yet", ELEMENT, () -> new CrankCalculator().textByte(0));
            outside(18, index -> refused(CrankCalculator::new, ELEMENT, "textByte(" + index + ")", x -> x.textByte(index)));
            CrankCalculator x = at(LONGEST, "set 12345678; turn 1;");
            x.show();
            due("the last of the longest", '!', () -> x.textByte(35));
            dueThrow("behind the longest", ELEMENT, () -> x.textByte(36));
            x.crankBack();
            x.show();
            due("the last of a shorter one", '8', () -> x.textByte(34));
            dueThrow("behind a shorter one", ELEMENT, () -> x.textByte(35));
        });
    }
}
