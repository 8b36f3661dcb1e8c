/** Promises 8 to 15: pins, turns, shifts, clearing, multiplying, dividing, transferring. */
final class WorkEdges extends Edge {
    private static final String MACHINE = "pins 3; wheels 6;";

    private WorkEdges() {
    }

    static void all() {
        setPin();
        setPinRefused();
        setPins();
        turn();
        turnRefused();
        shift();
        clear();
        clearRefused();
        multiply();
        multiplyRefused();
        divide();
        transfer();
    }

    /** Pins 357, one turn made, shifted by 1. */
    private static CrankCalculator used() {
        return at(MACHINE, "set 357; turn 1; shift 1;");
    }

    private static void setPin() {
        promise(8, "Sets a pin.", () -> {
            CrankCalculator x = used();
            x.setPin(1, 8);
            dueRow("pin", row(7, 8, 3), x::pin);
            due("result", 357, x::result);
            due("one change", 2, x::changeCount);
        });
        promise(8, "`pin`: number of a pin", () -> {
            due("0", 7, () -> used().setPin(0, 1));
            due("n - 1", 3, () -> used().setPin(2, 1));
            due("the eighth", 0, () -> made("pins 8;").setPin(7, 1));
        });
        promise(8, "`digit`: 0 to 9", () -> {
            CrankCalculator x = used();
            x.setPin(0, 0);
            x.setPin(2, 9);
            dueRow("pin", row(0, 5, 9), x::pin);
        });
        promise(8, "Returns the previous digit.", () -> {
            CrankCalculator x = new CrankCalculator();
            due("at first", 0, () -> x.setPin(3, 9));
            due("once more", 9, () -> x.setPin(3, 0));
            due("once more", 0, () -> x.setPin(3, 0));
            due("another pin", 0, () -> x.setPin(2, 4));
        });
    }

    private static void setPinRefused() {
        promise(8, "Throws `IndexOutOfBoundsException` if there is no such pin", () -> {
            for (int pin : new int[] {-1, 3, 7, 8, LEAST, GREATEST}) {
                refused(WorkEdges::used, INDEX, "setPin(" + pin + ", 1)", x -> x.setPin(pin, 1));
                dueThrow("before the digit", INDEX, () -> used().setPin(pin, 10));
            }
            dueThrow("before the jam", INDEX, () -> jammed().setPin(4, 1));
            dueThrow("before all", INDEX, () -> jammed().setPin(-1, -1));
        });
        promise(8, "Throws `IllegalArgumentException` if the digit is out of range", () -> {
            for (int digit : new int[] {-1, 10, LEAST, GREATEST}) {
                refused(WorkEdges::used, ARGUMENT, "setPin(2, " + digit + ")", x -> x.setPin(2, digit));
            }
            dueThrow("before the jam", ARGUMENT, () -> jammed().setPin(0, 10));
        });
        promise(8, "Throws `IllegalStateException` if the machine is jammed",
            () -> refused(Edge::jammed, STATE, "setPin(3, 9)", x -> x.setPin(3, 9)));
    }

    private static void setPins() {
        promise(9, "Sets all pins.", () -> {
            CrankCalculator x = used();
            x.setPins(42);
            dueRow("pin", row(2, 4, 0), x::pin);
            due("one change", 2, x::changeCount);
        });
        promise(9, "`number`: 0 to 10 to the power of n minus 1", () -> {
            due("0", 357, () -> used().setPins(0));
            due("999", 357, () -> used().setPins(999));
            due("99 of 2 pins", 0, () -> made("pins 2;").setPins(99));
            due("99999999 of 8 pins", 0, () -> made("pins 8;").setPins(99999999));
        });
        promise(9, "Returns the previous number.", () -> {
            CrankCalculator x = made("pins 8;");
            due("at first", 0, () -> x.setPins(99999999));
            due("once more", 99999999, () -> x.setPins(10000000));
            due("once more", 10000000, () -> x.setPins(0));
            due("once more", 0, () -> x.setPins(1));
        });
        promise(9, "Throws `IllegalArgumentException` if the number is out of range", () -> {
            for (int number : new int[] {-1, 1000, 99999999, LEAST, GREATEST}) {
                refused(WorkEdges::used, ARGUMENT, "setPins(" + number + ")", x -> x.setPins(number));
            }
            dueThrow("100 of 2 pins", ARGUMENT, () -> made("pins 2;").setPins(100));
            dueThrow("100000000 of 8 pins", ARGUMENT, () -> made("pins 8;").setPins(100000000));
            dueThrow("before the jam", ARGUMENT, () -> jammed().setPins(10000));
        });
        promise(9, "Throws `IllegalStateException` if the machine is jammed",
            () -> refused(Edge::jammed, STATE, "setPins(9999)", x -> x.setPins(9999)));
    }

    private static void turn() {
        promise(10, "Turns the crank.", () -> {
            CrankCalculator x = used();
            x.turn(2);
            due("result", 357 + 7140, x::result);
            due("counter", 21, x::counter);
            due("one change", 2, x::changeCount);
        });
        promise(10, "`turns`: 1 to 99 forward, or -1 to -99 back", () -> {
            due("1", 357 * 2, () -> {
                CrankCalculator x = at(MACHINE, "set 357; turn 1;");
                x.turn(1);
                return x.result();
            });
            due("99", 357 * 100, () -> {
                CrankCalculator x = at(MACHINE, "set 357; turn 1;");
                x.turn(99);
                return x.result();
            });
            due("-1", 0, () -> {
                CrankCalculator x = at(MACHINE, "set 357; turn 1;");
                x.turn(-1);
                return x.result();
            });
            due("-99", 1000000 - 357 * 98, () -> {
                CrankCalculator x = at(MACHINE, "set 357; turn 1;");
                x.turn(-99);
                return x.result();
            });
        });
        promise(10, "Returns the number of turns that were finished.", () -> {
            due("1", 1, () -> used().turn(1));
            due("99", 99, () -> used().turn(99));
            due("-1", 1, () -> used().turn(-1));
            due("-99", 99, () -> used().turn(-99));
            due("the first jams", 0, () -> at("stuck 0;", "set 1;").turn(5));
            due("the third jams", 2, () -> at("stuck 2;", "set 40;").turn(5));
            due("the last jams", 2, () -> at("stuck 2;", "set 40;").turn(3));
            due("none jams", 2, () -> at("stuck 2;", "set 40;").turn(2));
            due("the third back jams", 2, () -> at("stuck 2;", "set 40; turn 2;").turn(-3));
        });
    }

    private static void turnRefused() {
        promise(10, "Throws `IllegalArgumentException` if the number is 0 or out of range", () -> {
            for (int turns : new int[] {0, 100, -100, LEAST, GREATEST}) {
                refused(WorkEdges::used, ARGUMENT, "turn(" + turns + ")", x -> x.turn(turns));
                dueThrow("before the jam", ARGUMENT, () -> jammed().turn(turns));
            }
        });
        promise(10, "Throws `IllegalStateException` if the machine is jammed", () -> {
            refused(Edge::jammed, STATE, "turn(1)", x -> x.turn(1));
            refused(Edge::jammed, STATE, "turn(-99)", x -> x.turn(-99));
        });
    }

    private static void shift() {
        promise(11, "Shifts the carriage.", () -> {
            CrankCalculator x = used();
            x.shift(1);
            due("position", 2, () -> x.state(4));
            due("result", 357, x::result);
            x.turn(1);
            due("result", 357 + 35700, x::result);
            due("two changes", 3, x::changeCount);
        });
        promise(11, "`steps`: by how much its position increases, or decreases if it is negative", () -> {
            due("from 1 by 2", 3, () -> used().shift(2));
            due("from 1 by -1", 0, () -> used().shift(-1));
            due("by 0", 1, () -> used().shift(0));
            due("from 0 to 14", 14, () -> made("pins 2; wheels 16;").shift(14));
            due("from 14 to 0", 0, () -> at("pins 2; wheels 16;", "shift 14;").shift(-14));
        });
        promise(11, "Returns the new position.", () -> {
            due("the lowest", 0, () -> used().shift(-1));
            due("the highest", 3, () -> used().shift(2));
            due("the same", 0, () -> made("pins 8; wheels 8;").shift(0));
        });
        promise(11, "Throws `IllegalStateException` if the machine is jammed", () -> {
            refused(Edge::jammed, STATE, "shift(1)", x -> x.shift(1));
            refused(Edge::jammed, STATE, "shift(0)", x -> x.shift(0));
            // this one is listed first
            refused(Edge::jammed, STATE, "shift(5)", x -> x.shift(5));
            refused(Edge::jammed, STATE, "shift(-1)", x -> x.shift(-1));
        });
        promise(11, "Throws `IllegalArgumentException` if the position would not exist", () -> {
            for (int steps : new int[] {3, -2, 16, LEAST, LEAST + 1, GREATEST, GREATEST - 1}) {
                refused(WorkEdges::used, ARGUMENT, "shift(" + steps + ")", x -> x.shift(steps));
            }
            dueThrow("of one position alone", ARGUMENT, () -> made("pins 8; wheels 8;").shift(1));
            dueThrow("of one position alone", ARGUMENT, () -> made("pins 8; wheels 8;").shift(-1));
        });
    }

    private static void clear() {
        promise(12, "Clears wheels or pins: their digits become 0.", () -> {
            CrankCalculator x = at("slip 0; stuck 7; reach 9;", "set 1020; shift 1; turn 12;");
            x.clear(0);
            due("result", 0, x::result);
            due("counter", 0, x::counter);
            dueRow("pin", row(0, 0, 0, 0), x::pin);
            dueRow("state", row(4, 8, 4, 9, 1, 2, 0), x::state);
            due("turns are not cleared", 12, () -> x.count(0));
            due("nor steps", 24, () -> x.steps(2));
            due("nor the kept turns", 1020, () -> x.logged(11, 2));
            due("one change", 2, x::changeCount);
        });
        promise(12, "`what`: 0 all, 1 the result, 2 the counter, 3 the pins", () -> {
            String[] want = {"0000^0000 0000 0000", "0000^0000 0012 1020", "0001^2240 0000 1020", "0001^2240 0012 0000"};
            for (int what = 0; what < 4; what++) {
                CrankCalculator x = at("", "set 1020; turn 12;");
                x.clear(what);
                dueText("clear(" + what + ")", want[what], shown(x));
            }
        });
        promise(12, "Returns the number of digits that were not 0.", () -> {
            long[] want = {4 + 2 + 2, 4, 2, 2};
            for (int what = 0; what < 4; what++) {
                int w = what;
                due("clear(" + what + ")", want[what], () -> at("", "set 1020; turn 12;").clear(w));
                due("clear(" + what + ") of nothing", 0, () -> new CrankCalculator().clear(w));
            }
            CrankCalculator x = at("pins 8; wheels 16; counter 8;", "set 99999999; shift 8; turn 1; shift -8; turn -1;");
            due("the result of 16 wheels", 9, () -> x.clear(1));
            due("the counter of 8 wheels", 8, () -> x.clear(2));
            due("8 pins", 8, () -> x.clear(3));
            CrankCalculator y = at("pins 8; wheels 16; counter 8;", "set 1; turn -1; set 99999999;");
            due("all of the greatest machine", 16 + 8 + 8, () -> y.clear(0));
            due("all of it again", 0, () -> y.clear(0));
        });
    }

    private static void clearRefused() {
        promise(12, "Throws `IllegalArgumentException` if what is out of range", () -> {
            for (int what : new int[] {-1, 4, LEAST, GREATEST}) {
                refused(WorkEdges::used, ARGUMENT, "clear(" + what + ")", x -> x.clear(what));
                dueThrow("before the jam", ARGUMENT, () -> jammed().clear(what));
            }
        });
        promise(12, "Throws `IllegalStateException` if the machine is jammed", () -> {
            for (int what = 0; what < 4; what++) {
                int w = what;
                refused(Edge::jammed, STATE, "clear(" + what + ")", x -> x.clear(w));
            }
        });
    }

    private static void multiply() {
        promise(13, "Multiplies the number of the pins, and adds the product to the result.", () -> {
            CrankCalculator x = at("pins 3; wheels 9; counter 6;", "set 321; turn 1; shift 4;");
            x.multiply(102, false);
            due("result", 321 * 103, x::result);
            due("due result", 321 * 103, x::dueResult);
            due("counter", 103, x::counter);
            x.multiply(97, true);
            due("result", 321 * 200, x::result);
            due("two changes", 3, x::changeCount);
            CrankCalculator y = at("pins 2; wheels 3;", "set 99;");
            y.multiply(99, false);
            due("modulo 10 to the power of m", 99 * 99 % 1000, y::result);
        });
        promise(13, "`number`: 0 to 999999", () -> {
            CrankCalculator x = at("pins 2; wheels 9; counter 8;", "set 3;");
            due("0", 0, () -> x.multiply(0, false));
            due("1", 1, () -> x.multiply(1, false));
            due("999999", 54, () -> x.multiply(999999, false));
            due("result", 3000000, x::result);
        });
        promise(13, "`isShort`: whether the short way is taken", () -> {
            due("long", 17, () -> at("", "set 12;").multiply(98, false));
            due("short", 3, () -> at("", "set 12;").multiply(98, true));
        });
        promise(13, "Returns the number of turns that were finished.", () -> {
            due("of 0", 0, () -> at("", "set 12;").multiply(0, true));
            due("of 7", 7, () -> at("", "set 12;").multiply(7, false));
            due("of 7, short", 3 + 1, () -> at("", "set 12;").multiply(7, true));
            due("the first jams", 0, () -> at("stuck 0;", "set 12;").multiply(7, false));
            due("a later one jams", 2, () -> at("stuck 2;", "set 40;").multiply(7, false));
            due("one at the next position jams", 2, () -> at("stuck 2;", "set 40;").multiply(12, false));
            due("with pins of 0", 21, () -> made("wheels 9;").multiply(123456, false));
        });
    }

    private static void multiplyRefused() {
        promise(13, "Throws `IllegalArgumentException` if the number is out of range", () -> {
            for (int number : new int[] {-1, 1000000, LEAST, GREATEST}) {
                refused(WorkEdges::used, ARGUMENT, "multiply(" + number + ", false)", x -> x.multiply(number, false));
                refused(WorkEdges::used, ARGUMENT, "multiply(" + number + ", true)", x -> x.multiply(number, true));
                dueThrow("before the jam", ARGUMENT, () -> jammed().multiply(number, true));
            }
            dueThrow("before the position", ARGUMENT, () -> made("pins 8;").multiply(1000000, false));
        });
        promise(13, "Throws `IllegalStateException` if the machine is jammed, or the highest position that is needed"
            + " does not exist", () -> {
            refused(Edge::jammed, STATE, "multiply(0, false)", x -> x.multiply(0, false));
            refused(Edge::jammed, STATE, "multiply(9, true)", x -> x.multiply(9, true));
            refused(Edge::jammed, STATE, "multiply(999999, true)", x -> x.multiply(999999, true));
            // positions 0 to 3
            due("position 3", 4, () -> used().multiply(1111, false));
            refused(WorkEdges::used, STATE, "multiply(10000, false)", x -> x.multiply(10000, false));
            due("position 3", 20, () -> used().multiply(5555, true));
            refused(WorkEdges::used, STATE, "multiply(6000, true)", x -> x.multiply(6000, true));
        });
    }

    private static void divide() {
        promise(14, "Divides the result by the number of the pins.", () -> {
            CrankCalculator x = at("", "set 1234; turn 56; clear counter; set 99; shift 1;");
            x.divide();
            due("counter", 1234 * 56 / 99, x::counter);
            due("result", 1234 * 56 % 99, x::result);
            due("due result", 1234 * 56 % 99, x::dueResult);
            due("position", 0, () -> x.state(4));
            due("one change", 2, x::changeCount);
        });
        promise(14, "Returns the number of turns that were finished.", () -> {
            due("0 by 1", 5 * 2, () -> at("", "set 1;").divide());
            due("7 by 2", 4 * 2 + 3 + 2, () -> at("", "set 7; turn 1; set 2;").divide());
            due("at most ten a position", 20, () -> at("pins 2; wheels 3; slip 1;", "set 1;").divide());
            due("the first jams", 0, () -> at("stuck 4;", "set 1;").divide());
            due("a later one jams", 2 * 4, () -> at("stuck 0;", "set 1;").divide());
        });
        promise(14, "Throws `IllegalStateException` if the machine is jammed, or all pins are 0", () -> {
            refused(Edge::jammed, STATE, "divide()", CrankCalculator::divide);
            refused(() -> at("stuck 1;", "set 11; turn 1;"), STATE, "divide()", CrankCalculator::divide);
            refused(() -> at(MACHINE, "set 357; turn 1; set 0; shift 1;"), STATE, "divide()", CrankCalculator::divide);
            due("the highest pin alone", 2 * 4, () -> at(MACHINE, "set 100;").divide());
            due("the lowest pin alone", 2 * 4, () -> at(MACHINE, "set 1;").divide());
        });
    }

    private static void transfer() {
        promise(15, "Transfers digits back: the pins get the digits of the result wheels c to c + n - 1,"
            + " and the result is cleared.", () -> {
            // result 123456
            String script = "set 456; turn 1; shift 3; set 123; turn 1; set 999; shift -3;";
            long[] want = {456, 345, 234, 123};
            for (int position = 0; position < 4; position++) {
                CrankCalculator x = at(MACHINE, script + "shift " + position + ";");
                due("transfer() at position " + position, want[position], x::transfer);
                due("result", 0, x::result);
                due("due result", 0, x::dueResult);
                due("counter stays", 1001, x::counter);
                due("position stays", position, () -> x.state(4));
                due("the pins", want[position], () -> x.pin(0) + 10 * x.pin(1) + 100 * x.pin(2));
                due("one change", 2, x::changeCount);
            }
        });
        promise(15, "Returns the number of the pins then.", () -> {
            due("of 0", 0, () -> at(MACHINE, "set 5;").transfer());
            due("of 8 pins", 99999999, () -> at("pins 8;", "set 99999999; turn 1;").transfer());
            due("of 2 pins", 20, () -> at("pins 2;", "set 70; turn 6;").transfer());
        });
        promise(15, "Throws `IllegalStateException` if the machine is jammed",
            () -> refused(() -> at("stuck 1;", "set 12; turn 1;"), STATE, "transfer()", CrankCalculator::transfer));
    }
}
