/** Section 1, the parts, and section 4, the due result. */
final class PartsEdges extends Edge {
    private PartsEdges() {
    }

    static void all() {
        pins();
        wheels();
        counterWheels();
        digits();
        carriage();
        reach();
        numbers();
        dueResult();
    }

    private static void size(String setup, int what, long want) {
        CrankCalculator x = new CrankCalculator();
        due("setup \"" + setup + "\" is taken", 0, () -> setup(x, setup) == NONE ? 1 : 0);
        due("state(" + what + ") behind \"" + setup + "\"", want, () -> x.state(what));
    }

    private static void noSize(String setup) {
        CrankCalculator x = new CrankCalculator();
        due("setup \"" + setup + "\" is refused", NONE, () -> setup(x, setup));
        due("as out of range", 2, x::errorCode);
    }

    private static void pins() {
        section(1, "The machine has n pins (2 to 8; 4 at first),", () -> {
            due("at first", 4, () -> new CrankCalculator().state(0));
            size("", 0, 4);
            size("pins 2;", 0, 2);
            size("pins 8;", 0, 8);
            noSize("pins 1;");
            noSize("pins 0;");
            noSize("pins 9;");
        });
    }

    private static void wheels() {
        section(1, "m result wheels (n to 16; 8 at first)", () -> {
            due("at first", 8, () -> new CrankCalculator().state(1));
            size("", 1, 8);
            size("wheels 4;", 1, 4);
            size("pins 2; wheels 2;", 1, 2);
            size("pins 8; wheels 8;", 1, 8);
            size("wheels 16;", 1, 16);
            noSize("wheels 3;");
            noSize("pins 2; wheels 1;");
            noSize("pins 8; wheels 7;");
            noSize("wheels 17;");
        });
    }

    private static void counterWheels() {
        section(1, "and k counter wheels (2 to 8; 4 at first),", () -> {
            due("at first", 4, () -> new CrankCalculator().state(2));
            size("", 2, 4);
            size("counter 2;", 2, 2);
            size("counter 8;", 2, 8);
            noSize("counter 1;");
            noSize("counter 9;");
        });
    }

    private static void digits() {
        section(1, "each with a digit, 0 at first, numbered from 0 for the lowest place.", () -> {
            CrankCalculator x = new CrankCalculator();
            dueRow("pin at first", row(0, 0, 0, 0), x::pin);
            dueRow("digit at first", row(0, 0, 0, 0, 0, 0, 0, 0), x::digit);
            dueRow("counterDigit at first", row(0, 0, 0, 0), x::counterDigit);
            CrankCalculator y = at("", "set 1; turn 2; shift 3; set 3000; turn 4;");
            dueRow("pin", row(0, 0, 0, 3), y::pin);
            dueRow("digit", row(2, 0, 0, 0, 0, 0, 2, 1), y::digit);
            dueRow("counterDigit", row(2, 0, 0, 4), y::counterDigit);
        });
    }

    private static void carriage() {
        section(1, "The carriage has a position c from 0 to m - n, 0 at first.", () -> {
            CrankCalculator x = made("pins 3; wheels 7;");
            due("at first", 0, () -> x.state(4));
            dueThrow("below 0", ARGUMENT, () -> x.shift(-1));
            due("up to m - n", 4, () -> x.shift(4));
            due("up to m - n", 4, () -> x.state(4));
            dueThrow("beyond m - n", ARGUMENT, () -> x.shift(1));
            due("down to 0", 0, () -> x.shift(-4));
            CrankCalculator y = made("pins 5; wheels 5;");
            dueThrow("beyond 0, if m is n", ARGUMENT, () -> y.shift(1));
            CrankCalculator z = made("pins 2; wheels 16;");
            due("the highest of all", 14, () -> z.shift(14));
            dueThrow("beyond the highest of all", ARGUMENT, () -> z.shift(1));
        });
    }

    private static void reach() {
        section(1, "The reach is a number from 0 to 16 (16 at first).", () -> {
            due("at first", 16, () -> new CrankCalculator().state(3));
            size("", 3, 16);
            size("reach 0;", 3, 0);
            size("reach 16;", 3, 16);
            noSize("reach 17;");
        });
    }

    private static void numbers() {
        section(1, "The result and the counter are the numbers that their digits make up.", () -> {
            CrankCalculator x = at("pins 8; wheels 16; counter 8;",
                "set 12345678; turn 1; shift 8; set 98765432; turn 1;");
            due("result of 16 wheels", 9876543212345678L, x::result);
            due("counter beyond k", 1, x::counter);
            CrankCalculator y = at("pins 2; wheels 9; counter 8;", "turn 1; shift 1; turn 2; shift 1; turn 3; shift 1;"
                + "turn 4; shift 1; turn 5; shift 1; turn 6; shift 1; turn 7; shift 1; turn 8;");
            due("counter of 8 wheels", 87654321, y::counter);
            due("result of 0", 0, y::result);
        });
    }

    private static void dueResult() {
        section(4, "The due result is a number, 0 at first:", () -> {
            due("of a new object", 0, () -> new CrankCalculator().dueResult());
            due("of a new machine", 0, () -> {
                CrankCalculator x = at("", "set 5; turn 1;");
                x.setup();
                return x.dueResult();
            });
        });
        section(4, "each turn that was finished adds the number of the pins times 10 to the power of c to it,"
            + " or subtracts it, modulo 10 to the power of m;", PartsEdges::dueOfTurns);
        section(4, "clearing the result makes it 0.", () -> {
            String turns = "set 34; turn 3;";
            due("all", 0, () -> at("", turns + "clear;").dueResult());
            due("the result", 0, () -> at("", turns + "clear result;").dueResult());
            due("the counter", 102, () -> at("", turns + "clear counter;").dueResult());
            due("the pins", 102, () -> at("", turns + "clear pins;").dueResult());
            CrankCalculator x = at("", turns);
            x.transfer();
            due("transferred", 0, x::dueResult);
            CrankCalculator y = at("slip 0;", "set 5; turn 2;");
            due("a result that is 0 already", 0, y::result);
            due("but not the due one", 10, y::dueResult);
            y.clear(1);
            due("is cleared too", 0, y::dueResult);
        });
    }

    private static void dueOfTurns() {
        String machine = "pins 2; wheels 4; slip 0; slip 1; slip 2;";
        due("forward", 225, () -> at(machine, "set 75; turn 3;").dueResult());
        due("at c", 7500, () -> at(machine, "set 75; shift 2; turn 1;").dueResult());
        due("back", 75, () -> at(machine, "set 75; turn 3; turn -2;").dueResult());
        due("to 10 to the power of m", 0, () -> at(machine, "set 50; shift 2; turn 2;").dueResult());
        due("below it", 9900, () -> at(machine, "set 99; shift 2; turn 1;").dueResult());
        due("beyond it", 9800, () -> at(machine, "set 99; shift 2; turn 2;").dueResult());
        due("below 0", 9999, () -> at(machine, "set 1; turn -1;").dueResult());
        due("to 0", 0, () -> at(machine, "set 1; turn 1; turn -1;").dueResult());
        due("greatest", 9999999900000000L,
            () -> at("pins 8; wheels 16;", "set 99999999; shift 8; turn 1;").dueResult());
        due("beyond the greatest", 9999999800000000L,
            () -> at("pins 8; wheels 16;", "set 99999999; shift 8; turn 2;").dueResult());
        CrankCalculator x = at("stuck 1;", "set 12; turn 1;");
        due("not a turn that jams", 0, x::dueResult);
        due("that is finished", 1, x::free);
        due("but the finished one", 12, x::dueResult);
        CrankCalculator y = at("stuck 1;", "set 12; turn 1;");
        y.crankBack();
        due("not one cranked back", 0, y::dueResult);
    }
}
