/** Section 3: multiplying and dividing. */
final class WayEdges extends Edge {
    private WayEdges() {
    }

    static void all() {
        multiplying();
        shortWay();
        zero();
        highestPosition();
        dividing();
        tenTurns();
        quotient();
        jamEndsIt();
    }

    /** The kept turns, each as its position with the sign of its direction; position p is told as p + 1. */
    private static String way(CrankCalculator x, int turns) {
        StringBuilder way = new StringBuilder();
        for (int index = 0; index < turns; index++) {
            way.append(x.logged(index, 0) * (x.logged(index, 1) + 1)).append(' ');
        }
        return way.toString().trim();
    }

    private static void multiplies(int number, boolean isShort, int position, String way) {
        multiplies(number, isShort, position, way.split(" ").length, way);
    }

    /** The way is null where more turns are made than are kept. */
    private static void multiplies(int number, boolean isShort, int position, int turns, String way) {
        CrankCalculator x = at("pins 2; wheels 9; counter 8;", "shift 7; set 7;");
        String call = "multiply(" + number + ", " + isShort + ")";
        due(call, turns, () -> x.multiply(number, isShort));
        if (way != null) {
            dueText("the turns of " + call, way, way(x, x.count(0)));
        }
        due("the result of " + call, 7L * number, x::result);
        due("the counter of " + call, number, x::counter);
        due("the position behind " + call, position, () -> x.state(4));
        due("turnsFor(" + number + ", " + isShort + ")", turns, () -> x.turnsFor(number, isShort));
    }

    private static void multiplying() {
        section(3, "To multiply by a number, the carriage goes to position 0, and for each digit of the number,"
            + " from the lowest to the highest one other than 0, as many turns forward are made as the digit tells;"
            + " between two digits the carriage shifts by one to the next higher position.", () -> {
            multiplies(1, false, 0, "1");
            multiplies(9, false, 0, "1 1 1 1 1 1 1 1 1");
            multiplies(10, false, 1, "2");
            multiplies(12, false, 1, "1 1 2");
            multiplies(302, false, 2, "1 1 3 3 3");
            multiplies(100000, false, 5, "6");
            multiplies(999999, false, 5, 54, null);
        });
    }

    private static void shortWay() {
        section(3, "With the short way, a carry that is 0 at first is added to each digit: if the sum is 6 to 10,"
            + " 10 minus the sum turns back are made, and the next carry is 1; otherwise as many turns forward as the"
            + " sum tells, and the next carry is 0.", () -> {
            multiplies(1, true, 0, "1");
            multiplies(5, true, 0, "1 1 1 1 1");
            multiplies(6, true, 1, "-1 -1 -1 -1 2");
            multiplies(9, true, 1, "-1 2");
            // a sum of 5 with the carry, a sum of 6 with it, a sum of 10
            multiplies(49, true, 1, "-1 2 2 2 2 2");
            multiplies(59, true, 2, "-1 -2 -2 -2 -2 3");
            multiplies(99, true, 2, "-1 3");
            // the carry goes on over a sum of 10, and ends with a smaller one
            multiplies(199, true, 2, "-1 3 3");
            multiplies(109, true, 2, "-1 2 3");
            multiplies(1009, true, 3, "-1 2 4");
            multiplies(500000, true, 5, "6 6 6 6 6");
        });
        section(3, "If the carry is 1 behind the highest digit, one more digit 0 follows.", () -> {
            multiplies(50, true, 1, "2 2 2 2 2");
            multiplies(60, true, 2, "-2 -2 -2 -2 3");
            multiplies(949999, true, 6, "-1 5 5 5 5 5 -6 7");
            multiplies(999999, true, 6, "-1 7");
        });
    }

    private static void zero() {
        section(3, "For the number 0 nothing is done but that the carriage goes to position 0.", () -> {
            for (boolean isShort : new boolean[] {false, true}) {
                CrankCalculator x = at("pins 3; wheels 6; slip 0; stuck 1;", "set 105; turn 1; shift 2;");
                due("multiply(0, " + isShort + ")", 0, () -> x.multiply(0, isShort));
                due("position", 0, () -> x.state(4));
                due("result", 105, x::result);
                due("counter", 1, x::counter);
                due("turns", 1, () -> x.count(0));
                dueRow("pin", row(5, 0, 1), x::pin);
                CrankCalculator y = made("pins 2; wheels 2;");
                due("with one position alone", 0, () -> y.multiply(0, isShort));
            }
        });
    }

    private static void highestPosition() {
        section(3, "The highest position that is needed must exist.", () -> {
            // positions 0 to 2
            String machine = "pins 2; wheels 4;";
            due("three digits", 27, () -> made(machine).multiply(999, false));
            refused(() -> made(machine), STATE, "multiply(1000, false)", x -> x.multiply(1000, false));
            refused(() -> made(machine), STATE, "multiply(999999, false)", x -> x.multiply(999999, false));
            due("short, 500", 5, () -> made(machine).multiply(500, true));
            due("short, 499", 1 + 5, () -> made(machine).multiply(499, true));
            due("short, 555", 15, () -> made(machine).multiply(555, true));
            refused(() -> made(machine), STATE, "multiply(600, true)", x -> x.multiply(600, true));
            refused(() -> made(machine), STATE, "multiply(596, true)", x -> x.multiply(596, true));
            refused(() -> at(machine, "shift 2;"), STATE, "multiply(999, true)", x -> x.multiply(999, true));
            due("one position alone, short", 5, () -> made("pins 8; wheels 8;").multiply(5, true));
            refused(() -> made("pins 8; wheels 8;"), STATE, "multiply(6, true)", x -> x.multiply(6, true));
            due("one position alone", 9, () -> made("pins 8; wheels 8;").multiply(9, false));
            refused(() -> made("pins 8; wheels 8;"), STATE, "multiply(10, false)", x -> x.multiply(10, false));
            due("seven positions", 2, () -> made("pins 2; wheels 8;").multiply(999999, true));
            refused(() -> made("pins 2; wheels 7;"), STATE, "multiply(999999, true)", x -> x.multiply(999999, true));
            due("six positions", 54, () -> made("pins 2; wheels 7;").multiply(999999, false));
        });
    }

    /** The way may be told where no turns were made before. */
    private static void divides(String setup, String script, int turns, String way, long counter, long result) {
        CrankCalculator x = at(setup, script + "clear counter;");
        String call = "divide() behind " + setup + script;
        due(call, turns, x::divide);
        due("the counter of " + call, counter, x::counter);
        due("the result of " + call, result, x::result);
        due("the position behind " + call, 0, () -> x.state(4));
        if (way != null) {
            dueText("the turns of " + call, way, way(x, turns));
        }
    }

    private static void dividing() {
        section(3, "To divide, the carriage goes to its highest position.", () -> {
            divides("pins 2; wheels 5;", "set 1;", 8, "-4 4 -3 3 -2 2 -1 1", 0, 0);
            divides("pins 2; wheels 5;", "shift 3; set 1;", 8, "-4 4 -3 3 -2 2 -1 1", 0, 0);
            divides("pins 2; wheels 2;", "set 1;", 2, "-1 1", 0, 0);
            divides("pins 2; wheels 16;", "set 1;", 30, "-15 15 -14 14 -13 13 -12 12 -11 11 -10 10 -9 9 -8 8 -7 7"
                + " -6 6 -5 5 -4 4 -3 3 -2 2 -1 1", 0, 0);
        });
        section(3, "Then the carriage shifts to the next lower position, if there is one.", () -> {
            divides("pins 2; wheels 3;", "set 1;", 4, "-2 2 -1 1", 0, 0);
            divides("pins 8; wheels 8;", "set 1;", 2, "-1 1", 0, 0);
        });
    }

    private static void tenTurns() {
        section(3, "At each position, turns back are made until the bell rings in one of them, but at most 10;"
            + " if it rang in the last one, a turn forward follows.", () -> {
            // in the first turn, in the second, in the tenth
            divides("pins 2; wheels 2;", "set 10;", 2, "-1 1", 0, 0);
            divides("pins 2; wheels 2;", "set 10; turn 1;", 3, null, 1, 0);
            divides("pins 2; wheels 2;", "set 10; turn 9;", 11, null, 9, 0);
            divides("pins 2; wheels 2;", "set 10; turn 9; set 9; turn 1; set 10;", 11, null, 9, 9);
            // not in ten: the tenth leaves 0 to 9, and no turn forward follows
            divides("pins 2; wheels 2;", "set 9; turn 11; set 9;", 10, null, 10, 9);
            divides("pins 2; wheels 2;", "set 9; turn 10; set 9;", 10, null, 10, 0);
            divides("pins 2; wheels 2;", "set 9; turn 9; set 8; turn 1; set 9;", 10 + 1, null, 9, 8);
            // nothing ever rings, as the carries are lost
            divides("pins 2; wheels 2; slip 0;", "set 3;", 10, "-1 -1 -1 -1 -1 -1 -1 -1 -1 -1", 10, 0);
            // ten at position 1, ten at position 0
            divides("pins 2; wheels 3;", "set 99; shift 1; turn 1; shift -1; set 9; turn 1; set 1;",
                20, null, 110, 889);
        });
    }

    private static void quotient() {
        section(3, "So the counter gets the quotient, and the result the remainder, if there is no fault.", () -> {
            divides("counter 5;", "set 9999; turn 99; set 37;", 2 + 6 + 7 + 5 + 4 + 5 + 5, null, 26754, 989901 % 37);
            divides("", "set 7; turn 1;", 5 * 2 + 1, null, 1, 0);
            divides("", "set 6; turn 1; set 7;", 5 * 2, null, 0, 6);
            divides("pins 8; wheels 8;", "set 99999999; turn 1;", 3, null, 1, 0);
            divides("pins 8; wheels 8;", "set 99999998; turn 1; set 99999999;", 2, null, 0, 99999998);
            // carries beyond the reach are lost, so the quotient is wrong
            divides("pins 2; wheels 4; reach 0;", "set 1;", 10 * 2 + 2, null, 110, 990);
        });
    }

    private static void jamEndsIt() {
        section(3, "If a turn jams, multiplying and dividing end there, also when the turn is finished later.", () -> {
            CrankCalculator x = at("pins 2; wheels 6; stuck 3;", "set 12;");
            due("multiply", 3 + 2, () -> x.multiply(123, false));
            due("the first turn at position 2 jams", 2, () -> x.state(4));
            due("finished later", 1, x::free);
            due("the number was done to its end by this one", 123 * 12, x::result);
            CrankCalculator y = at("pins 2; wheels 6; stuck 1;", "set 3;");
            due("multiply", 3, () -> y.multiply(45, false));
            due("finished later", 1, y::free);
            due("no more turns", 12, y::result);
            due("and no shift", 0, () -> y.state(4));
            due("turns", 4, () -> y.count(0));
            CrankCalculator z = at("pins 2; wheels 6; stuck 0;", "set 1;");
            due("multiply, short", 0, () -> z.multiply(9, true));
            due("finished later", 1, z::free);
            due("no more turns", 999999, z::result);
            due("and no shift", 0, () -> z.state(4));
            CrankCalculator u = at("pins 2; wheels 3; stuck 1;", "set 1;");
            due("divide", 0, u::divide);
            due("at the highest position", 1, () -> u.state(4));
            due("finished later", 1, u::free);
            due("no turn forward, though the bell rang", 990, u::result);
            due("and no shift", 1, () -> u.state(4));
            due("turns", 1, () -> u.count(0));
            due("counter", 10, u::counter);
            CrankCalculator v = at("pins 2; wheels 3; stuck 0;", "set 1;");
            due("divide", 2, v::divide);
            due("at the lower position", 0, () -> v.state(4));
            due("cranked back", 0, v::crankBack);
            due("not any more", 0, v::result);
            due("the position stays", 0, () -> v.state(4));
        });
    }
}
