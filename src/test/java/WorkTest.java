import java.util.function.LongSupplier;

/** Promises 8 to 19: working with the machine. */
public final class WorkTest {
    private static final Class<IllegalStateException> STATE = IllegalStateException.class;
    private static final Class<IllegalArgumentException> ARGUMENT = IllegalArgumentException.class;
    private static final Class<IndexOutOfBoundsException> INDEX = IndexOutOfBoundsException.class;
    private static final int LEAST = Integer.MIN_VALUE;
    private static final int GREATEST = Integer.MAX_VALUE;

    public static void main(String[] args) {
        setPin();
        setPins();
        turn();
        turnBack();
        carries();
        reachAndSlips();
        bell();
        counterWheels();
        shift();
        clear();
        multiply();
        multiplyShort();
        multiplyJams();
        divide();
        divideWithoutBell();
        divideJams();
        transfer();
        crankBack();
        crankBackOfCarries();
        crankBackBehindCarries();
        crankBackFreed();
        crankBackOfMostWheels();
        free();
        damage();
        repair();
        jammedDoesNothingElse();
        Check.end();
    }

    /** A machine that jams at wheel 0 in the next turn. */
    private static CrankCalculator jammed() {
        CrankCalculator x = Check.made("stuck 0;");
        x.setPins(1);
        x.turn(1);
        return x;
    }

    private static void throwsAndChangesNothing(CrankCalculator x, String call,
            Class<? extends RuntimeException> want, LongSupplier answer) {
        String before = Check.portrait(x);
        int changes = x.changeCount();
        Check.dueThrow(call, want, answer);
        Check.dueText(call + " changes nothing", before, Check.portrait(x));
        Check.due(call + " is no change", changes, x::changeCount);
    }

    private static void setPin() {
        CrankCalculator x = Check.made("pins 3;");
        Check.due("8", 0, () -> x.setPin(0, 9));
        Check.due("8", 0, () -> x.setPin(2, 7));
        Check.due("8 previous", 9, () -> x.setPin(0, 0));
        Check.due("8 previous", 7, () -> x.setPin(2, 7));
        Check.due("8 previous", 0, () -> x.setPin(0, 4));
        Check.due("51", 5, x::changeCount);
        Check.due("24", 4, () -> x.pin(0));
        Check.due("24", 0, () -> x.pin(1));
        Check.due("24", 7, () -> x.pin(2));
        for (int pin : new int[] {-1, 3, 4, LEAST, GREATEST}) {
            throwsAndChangesNothing(x, "8 pin", INDEX, () -> x.setPin(pin, 1));
            throwsAndChangesNothing(x, "8 pin first", INDEX, () -> x.setPin(pin, 10));
        }
        for (int digit : new int[] {-1, 10, LEAST, GREATEST}) {
            throwsAndChangesNothing(x, "8 digit", ARGUMENT, () -> x.setPin(1, digit));
        }
        CrankCalculator y = jammed();
        throwsAndChangesNothing(y, "8 jammed", STATE, () -> y.setPin(0, 1));
        throwsAndChangesNothing(y, "8 jammed, digit first", ARGUMENT, () -> y.setPin(0, 10));
        throwsAndChangesNothing(y, "8 jammed, pin first", INDEX, () -> y.setPin(4, 10));
    }

    private static void setPins() {
        CrankCalculator x = Check.made("pins 3;");
        Check.due("9", 0, () -> x.setPins(999));
        Check.due("9", 999, () -> x.setPins(40));
        Check.due("24", 0, () -> x.pin(0));
        Check.due("24", 4, () -> x.pin(1));
        Check.due("24", 0, () -> x.pin(2));
        Check.due("9", 40, () -> x.setPins(0));
        Check.due("9", 0, () -> x.setPins(0));
        Check.due("51", 4, x::changeCount);
        for (int number : new int[] {-1, 1000, LEAST, GREATEST}) {
            throwsAndChangesNothing(x, "9", ARGUMENT, () -> x.setPins(number));
        }
        CrankCalculator y = Check.made("pins 8;");
        Check.due("9", 0, () -> y.setPins(99999999));
        Check.due("9", 99999999, () -> y.setPins(12345678));
        Check.due("24", 1, () -> y.pin(7));
        throwsAndChangesNothing(y, "9", ARGUMENT, () -> y.setPins(100000000));
        CrankCalculator z = jammed();
        throwsAndChangesNothing(z, "9 jammed", STATE, () -> z.setPins(1));
        throwsAndChangesNothing(z, "9 jammed, number first", ARGUMENT, () -> z.setPins(10000));
    }

    private static void turn() {
        CrankCalculator x = new CrankCalculator();
        x.setPins(1234);
        Check.due("10", 3, () -> x.turn(3));
        Check.due("25", 3702, x::result);
        Check.due("26", 3, x::counter);
        Check.due("21 turns", 3, () -> x.count(0));
        Check.due("21 back", 0, () -> x.count(1));
        Check.due("10", 99, () -> x.turn(99));
        Check.due("25", 1234 * 102, x::result);
        Check.due("10 one change each", 3, x::changeCount);
        for (int turns : new int[] {0, 100, -100, LEAST, GREATEST}) {
            throwsAndChangesNothing(x, "10", ARGUMENT, () -> x.turn(turns));
        }
        CrankCalculator y = jammed();
        throwsAndChangesNothing(y, "10 jammed", STATE, () -> y.turn(1));
        throwsAndChangesNothing(y, "10 jammed, number first", ARGUMENT, () -> y.turn(0));
        CrankCalculator z = Check.made("stuck 2;");
        z.setPins(40);
        Check.due("10 until the jam", 2, () -> z.turn(9));
        Check.due("25", 20, z::result);
        Check.due("26", 2, z::counter);
        Check.due("51", 2, z::changeCount);
    }

    private static void turnBack() {
        CrankCalculator x = new CrankCalculator();
        x.setPins(1234);
        Check.due("10", 99, () -> x.turn(-99));
        Check.due("25", 100000000 - 1234 * 99, x::result);
        Check.due("26", 9901, x::counter);
        Check.due("21 turns", 99, () -> x.count(0));
        Check.due("21 back", 99, () -> x.count(1));
        Check.due("10", 1, () -> x.turn(-1));
        Check.due("25", 100000000 - 1234 * 100, x::result);
        Check.due("10", 99, () -> x.turn(99));
        Check.due("10", 1, () -> x.turn(1));
        Check.due("25", 0, x::result);
        Check.due("26", 0, x::counter);
        Check.due("21 turns", 200, () -> x.count(0));
        Check.due("21 back", 100, () -> x.count(1));
    }

    private static void carries() {
        CrankCalculator x = Check.made("pins 2; wheels 5;");
        x.setPins(99);
        x.turn(1);
        Check.due("21 no carry", 0, () -> x.count(3));
        x.turn(1);
        Check.due("25", 198, x::result);
        Check.due("21 two carries", 2, () -> x.count(3));
        // a carry can set a lever in its turn: 999 + 1
        x.clear(0);
        x.setPins(99);
        x.turn(10);
        x.setPins(9);
        x.turn(1);
        Check.due("25", 999, x::result);
        int before = x.count(3);
        x.setPins(1);
        x.turn(1);
        Check.due("25", 1000, x::result);
        Check.due("21 three carries", before + 3, () -> x.count(3));
        x.turn(-1);
        Check.due("25", 999, x::result);
        Check.due("21 three carries back", before + 6, () -> x.count(3));
        Check.due("21 none lost", 0, () -> x.count(4));
        // ten steps at once bring a wheel to where it was
        CrankCalculator y = Check.made("pins 2; wheels 3;");
        y.setPins(9);
        y.turn(1);
        y.setPins(99);
        y.turn(1);
        Check.due("25", 108, y::result);
        Check.due("31", 10, () -> y.steps(1));
        Check.due("21 carries", 2, () -> y.count(3));
    }

    private static void reachAndSlips() {
        // reach 0: the highest wheel that a carry moves is c + n - 1
        CrankCalculator x = Check.made("pins 2; wheels 5; reach 0;");
        x.setPins(99);
        x.turn(2);
        Check.due("25 reach 0", 98, x::result);
        Check.due("21 carries", 1, () -> x.count(3));
        Check.due("21 lost", 1, () -> x.count(4));
        x.shift(1);
        x.turn(1);
        // wheel 2 is in reach now, and its own carry is lost
        Check.due("25 shifted", 88, x::result);
        Check.due("21 carries", 2, () -> x.count(3));
        Check.due("21 lost", 2, () -> x.count(4));
        CrankCalculator y = Check.made("pins 2; wheels 5; reach 1;");
        y.setPins(99);
        y.turn(2);
        Check.due("25 reach 1", 198, y::result);
        y.turn(9);
        Check.due("25 reach 1", 89, y::result);
        Check.due("21 lost", 1, () -> y.count(4));
        CrankCalculator z = Check.made("pins 2; wheels 5; slip 0;");
        z.setPins(15);
        z.turn(2);
        Check.due("25 slip", 20, z::result);
        Check.due("21 lost", 1, () -> z.count(4));
        Check.due("21 carries", 0, () -> z.count(3));
        z.turn(-1);
        Check.due("25 slip back", 15, z::result);
        Check.due("21 lost", 2, () -> z.count(4));
        // a lost carry does not jam at a stuck wheel
        CrankCalculator u = Check.made("pins 2; wheels 3; slip 1; stuck 2;");
        u.setPins(50);
        Check.due("10 lost", 3, () -> u.turn(3));
        Check.due("25", 50, u::result);
        CrankCalculator v = Check.made("pins 2; wheels 3; reach 0; stuck 2;");
        v.setPins(50);
        Check.due("10 lost", 3, () -> v.turn(3));
        // a stuck wheel under a pin of 0 does not jam
        CrankCalculator w = Check.made("pins 3; stuck 1;");
        w.setPins(101);
        Check.due("10 no step", 9, () -> w.turn(9));
        Check.due("10 jam by a carry", 0, () -> w.turn(1));
        Check.due("30", 1, () -> w.jam(0));
        Check.due("30", 1, () -> w.jam(1));
    }

    private static void bell() {
        CrankCalculator x = Check.made("pins 2; wheels 2; slip 1;");
        x.setPins(50);
        x.turn(1);
        Check.due("21 rings", 0, () -> x.count(2));
        x.turn(1);
        Check.due("25", 0, x::result);
        Check.due("21 rings", 1, () -> x.count(2));
        Check.due("21 none lost", 0, () -> x.count(4));
        Check.due("21 no carry", 0, () -> x.count(3));
        x.turn(-1);
        Check.due("21 rings back", 2, () -> x.count(2));
        Check.due("25", 50, x::result);
        // the bell needs no reach
        CrankCalculator y = Check.made("pins 2; wheels 3; reach 0;");
        y.shift(1);
        y.setPins(90);
        y.turn(2);
        Check.due("21 rings", 1, () -> y.count(2));
        Check.due("21 none lost", 0, () -> y.count(4));
        Check.due("36", 800, y::dueResult);
    }

    private static void counterWheels() {
        CrankCalculator x = Check.made("pins 2; wheels 8; counter 3;");
        x.shift(2);
        x.turn(9);
        Check.due("26", 900, x::counter);
        x.shift(1);
        x.turn(5);
        Check.due("26 no such wheel", 900, x::counter);
        Check.due("21", 14, () -> x.count(0));
        x.shift(-1);
        x.turn(1);
        Check.due("26 nothing higher", 0, x::counter);
        x.shift(-2);
        x.turn(-1);
        Check.due("26 all the way", 999, x::counter);
        x.shift(1);
        x.turn(-9);
        Check.due("26", 909, x::counter);
        x.turn(-1);
        Check.due("26", 899, x::counter);
        x.turn(1);
        Check.due("26", 909, x::counter);
        x.shift(-1);
        x.turn(1);
        Check.due("26", 910, x::counter);
    }

    private static void shift() {
        CrankCalculator x = Check.made("pins 3; wheels 7;");
        Check.due("11", 4, () -> x.shift(4));
        Check.due("11", 4, () -> x.shift(0));
        Check.due("11", 1, () -> x.shift(-3));
        Check.due("20", 1, () -> x.state(4));
        Check.due("51", 3, x::changeCount);
        for (int steps : new int[] {4, -2, LEAST, GREATEST}) {
            throwsAndChangesNothing(x, "11", ARGUMENT, () -> x.shift(steps));
        }
        x.setPins(321);
        x.turn(1);
        Check.due("25", 3210, x::result);
        CrankCalculator y = jammed();
        throwsAndChangesNothing(y, "11 jammed", STATE, () -> y.shift(1));
        throwsAndChangesNothing(y, "11 jammed first", STATE, () -> y.shift(5));
        CrankCalculator z = Check.made("pins 8; wheels 8;");
        Check.due("11", 0, () -> z.shift(0));
        throwsAndChangesNothing(z, "11", ARGUMENT, () -> z.shift(1));
    }

    private static CrankCalculator filled() {
        CrankCalculator x = new CrankCalculator();
        x.setPins(1020);
        x.turn(12);
        return x;
    }

    private static void clear() {
        // result 12240, counter 12, pins 1020
        CrankCalculator x = filled();
        x.damage(0, 1);
        x.damage(4, 2);
        Check.due("12 all", 4 + 2 + 2, () -> x.clear(0));
        Check.due("25", 0, x::result);
        Check.due("26", 0, x::counter);
        Check.due("36", 0, x::dueResult);
        Check.due("9", 0, () -> x.setPins(3));
        Check.due("20 faults stay", 2, () -> x.state(5));
        Check.due("21 counts stay", 12, () -> x.count(0));
        Check.due("31 steps stay", 24, () -> x.steps(1));
        Check.due("12 all again", 1, () -> x.clear(0));
        Check.due("12 nothing", 0, () -> x.clear(0));
        Check.due("51", 8, x::changeCount);
        CrankCalculator y = filled();
        Check.due("12 result", 4, () -> y.clear(1));
        Check.due("25", 0, y::result);
        Check.due("36", 0, y::dueResult);
        Check.due("26", 12, y::counter);
        Check.due("12 counter", 2, () -> y.clear(2));
        Check.due("26", 0, y::counter);
        Check.due("12 pins", 2, () -> y.clear(3));
        Check.due("9", 0, () -> y.setPins(0));
        CrankCalculator z = filled();
        Check.due("12 counter", 2, () -> z.clear(2));
        Check.due("12 pins", 2, () -> z.clear(3));
        Check.due("25", 12240, z::result);
        Check.due("36", 12240, z::dueResult);
        for (int what : new int[] {-1, 4, LEAST, GREATEST}) {
            throwsAndChangesNothing(z, "12", ARGUMENT, () -> z.clear(what));
        }
        CrankCalculator u = jammed();
        throwsAndChangesNothing(u, "12 jammed", STATE, () -> u.clear(0));
        throwsAndChangesNothing(u, "12 jammed, what first", ARGUMENT, () -> u.clear(4));
        // a wrong result that is 0 already: the due one becomes 0 too
        CrankCalculator v = Check.made("slip 0;");
        v.setPins(5);
        v.turn(2);
        Check.due("36", 10, v::dueResult);
        Check.due("12 result", 0, () -> v.clear(1));
        Check.due("36", 0, v::dueResult);
    }

    private static void multiply() {
        CrankCalculator x = Check.made("pins 3; wheels 9; counter 8;");
        x.shift(3);
        x.setPins(321);
        Check.due("13", 1 + 2 + 3 + 9, () -> x.multiply(102309, false));
        Check.due("25", 102309 * 321, x::result);
        Check.due("26", 102309, x::counter);
        Check.due("20", 5, () -> x.state(4));
        Check.due("13 adds", 3, () -> x.multiply(3, false));
        Check.due("25", 102312 * 321, x::result);
        Check.due("20 back", 0, () -> x.state(4));
        x.shift(2);
        Check.due("13 by 0", 0, () -> x.multiply(0, false));
        Check.due("20", 0, () -> x.state(4));
        Check.due("25", 102312 * 321, x::result);
        x.shift(2);
        Check.due("13 by 0, short", 0, () -> x.multiply(0, true));
        Check.due("20", 0, () -> x.state(4));
        Check.due("51", 8, x::changeCount);
        Check.due("13", 54, () -> x.multiply(999999, false));
        for (int number : new int[] {-1, 1000000, LEAST, GREATEST}) {
            throwsAndChangesNothing(x, "13", ARGUMENT, () -> x.multiply(number, false));
            throwsAndChangesNothing(x, "13", ARGUMENT, () -> x.multiply(number, true));
        }
        CrankCalculator y = Check.made("pins 3; wheels 5;");
        y.setPins(1);
        y.shift(1);
        Check.due("13 highest position", 1, () -> y.multiply(100, false));
        throwsAndChangesNothing(y, "13 no position", STATE, () -> y.multiply(1000, false));
        throwsAndChangesNothing(y, "13 no position", STATE, () -> y.multiply(999999, false));
        Check.due("13 trailing zeros", 2, () -> y.multiply(200, false));
        CrankCalculator z = jammed();
        throwsAndChangesNothing(z, "13 jammed", STATE, () -> z.multiply(0, false));
        throwsAndChangesNothing(z, "13 jammed, number first", ARGUMENT, () -> z.multiply(-1, false));
    }

    private static void multiplyShort() {
        CrankCalculator x = Check.made("pins 3; wheels 10; counter 8;");
        x.setPins(7);
        // 5 forward
        Check.due("13", 5, () -> x.multiply(5, true));
        Check.due("20", 0, () -> x.state(4));
        // 4 back, 1 forward
        Check.due("13", 5, () -> x.multiply(6, true));
        Check.due("20", 1, () -> x.state(4));
        Check.due("21 back", 4, () -> x.count(1));
        Check.due("25", 77, x::result);
        Check.due("26", 11, x::counter);
        // 5 + 1 = 6: 4 back; 9 + 1 = 10: none; 8 + 1: 1 back; 1
        Check.due("13", 4 + 4 + 0 + 1 + 1, () -> x.multiply(8956, true));
        Check.due("20", 4, () -> x.state(4));
        Check.due("25", 77 + 7 * 8956, x::result);
        Check.due("26", 11 + 8956, x::counter);
        // 4 + 1 = 5: 5 forward
        Check.due("13", 1 + 5, () -> x.multiply(49, true));
        Check.due("20", 1, () -> x.state(4));
        Check.due("13", 2, () -> x.multiply(999999, true));
        Check.due("20", 6, () -> x.state(4));
        Check.due("25", 77L + 7 * (8956 + 49 + 999999), x::result);
        CrankCalculator y = Check.made("pins 3; wheels 4;");
        y.setPins(1);
        throwsAndChangesNothing(y, "13 no position", STATE, () -> y.multiply(60, true));
        throwsAndChangesNothing(y, "13 no position", STATE, () -> y.multiply(56, true));
        Check.due("13", 6, () -> y.multiply(60, false));
        Check.due("13", 1 + 5, () -> y.multiply(49, true));
        Check.due("13", 1 + 4, () -> y.multiply(6, true));
        CrankCalculator z = jammed();
        throwsAndChangesNothing(z, "13 jammed", STATE, () -> z.multiply(0, true));
        throwsAndChangesNothing(z, "13 jammed, number first", ARGUMENT, () -> z.multiply(1000000, true));
    }

    private static void multiplyJams() {
        CrankCalculator x = Check.made("pins 2; wheels 6; stuck 3;");
        x.setPins(12);
        // 12 * 3 in three turns; then 12 at position 1: wheel 2 moves; 12 at position 2 jams
        Check.due("13", 3 + 2, () -> x.multiply(123, false));
        Check.due("20 stays", 2, () -> x.state(4));
        Check.due("25", 276 + 200, x::result);
        Check.due("26", 23, x::counter);
        Check.due("17", 1, x::free);
        Check.due("25", 123 * 12, x::result);
        Check.due("26 upwards", 123, x::counter);
        Check.due("20 ended there", 2, () -> x.state(4));
        CrankCalculator y = Check.made("pins 2; wheels 6; stuck 1;");
        y.setPins(3);
        Check.due("13", 3, () -> y.multiply(45, false));
        Check.due("17", 1, y::free);
        Check.due("25 only this turn", 12, y::result);
        Check.due("20 no shift", 0, () -> y.state(4));
        Check.due("21", 4, () -> y.count(0));
        Check.due("51", 3, y::changeCount);
    }

    private static void divide() {
        CrankCalculator x = Check.made("counter 5;");
        x.setPins(9999);
        x.turn(99);
        x.clear(2);
        x.setPins(37);
        // 989901 / 37 = 26754: at each position one turn back more than the digit, and one forward
        Check.due("14", 2 + 6 + 7 + 5 + 4 + 2 * 5, x::divide);
        Check.due("26", 26754, x::counter);
        Check.due("25", 989901 % 37, x::result);
        Check.due("20", 0, () -> x.state(4));
        Check.due("37", 1, () -> x.isRight() ? 1 : 0);
        Check.due("21 rings", 10, () -> x.count(2));
        CrankCalculator y = new CrankCalculator();
        y.setPins(5);
        y.turn(3);
        y.clear(2);
        y.shift(2);
        y.setPins(4);
        Check.due("14", 2 * 4 + 5, y::divide);
        Check.due("25", 3, y::result);
        Check.due("26", 3, y::counter);
        Check.due("21 back", 4 + 4, () -> y.count(1));
        CrankCalculator z = new CrankCalculator();
        throwsAndChangesNothing(z, "14 pins 0", STATE, z::divide);
        z.setPins(1);
        Check.due("14 0 by 1", 10, z::divide);
        Check.due("26", 0, z::counter);
        Check.due("51", 2, z::changeCount);
        CrankCalculator u = jammed();
        throwsAndChangesNothing(u, "14 jammed", STATE, u::divide);
        // the divisor in a high place: at most 10 turns, the bell in the tenth
        CrankCalculator v = Check.made("pins 2; wheels 2;");
        v.setPins(90);
        v.turn(1);
        v.clear(2);
        v.setPins(10);
        Check.due("14 tenth turn rings", 11, v::divide);
        Check.due("26", 9, v::counter);
        Check.due("25", 0, v::result);
    }

    private static void divideWithoutBell() {
        // the carries are lost at wheel 0, so wheel 1 never moves and nothing rings
        CrankCalculator x = Check.made("pins 2; wheels 2; slip 0;");
        x.setPins(3);
        Check.due("14 ten turns, no turn forward", 10, x::divide);
        Check.due("25", 0, x::result);
        Check.due("26", 10, x::counter);
        Check.due("21 rings", 0, () -> x.count(2));
        Check.due("21 back", 10, () -> x.count(1));
    }

    private static void divideJams() {
        CrankCalculator x = Check.made("pins 2; wheels 3; stuck 0;");
        x.shift(1);
        x.setPins(50);
        x.turn(1);
        x.setPins(2);
        x.clear(2);
        // 500 by 2: 50 at position 1 would be too much for ten turns; ten turns, then the jam at wheel 0
        Check.due("14", 10, x::divide);
        Check.due("20", 0, () -> x.state(4));
        Check.due("26", 100, x::counter);
        Check.due("25", 300, x::result);
        Check.due("30", 0, () -> x.jam(0));
        Check.due("30", -1, () -> x.jam(2));
        x.save(0);
        Check.due("17", 1, x::free);
        Check.due("26 the other way", 101, x::counter);
        Check.due("25", 298, x::result);
        Check.due("20 ended there", 0, () -> x.state(4));
        x.turn(-1);
        Check.due("26 as always", 100, x::counter);
        Check.due("50", 7, x::undo);
        Check.due("50", 6, x::undo);
        Check.due("20 jammed", 1, () -> x.state(6));
        Check.due("17", 1, x::free);
        Check.due("26 the other way", 101, x::counter);
        x.restore(0);
        Check.due("16", 0, x::crankBack);
        Check.due("26", 100, x::counter);
        x.repair(0);
        x.turn(-1);
        Check.due("26 as always", 99, x::counter);
        // a jam in the turn forward
        CrankCalculator y = Check.made("pins 2; wheels 2; stuck 0;");
        y.setPins(10);
        Check.due("14", 2, y::divide);
        Check.due("26", 0, y::counter);
        y.setPins(11);
        Check.due("14", 0, y::divide);
        Check.due("30", 0, () -> y.jam(0));
        Check.due("17", 1, y::free);
        Check.due("26", 1, y::counter);
        Check.due("14 is over", 89, y::result);
    }

    private static void transfer() {
        CrankCalculator x = new CrankCalculator();
        x.setPins(4321);
        x.turn(3);
        x.shift(2);
        // 12963
        Check.due("15", 129, x::transfer);
        Check.due("25", 0, x::result);
        Check.due("36", 0, x::dueResult);
        Check.due("26 stays", 3, x::counter);
        Check.due("20", 2, () -> x.state(4));
        Check.due("24", 9, () -> x.pin(0));
        Check.due("24", 2, () -> x.pin(1));
        Check.due("24", 1, () -> x.pin(2));
        Check.due("24", 0, () -> x.pin(3));
        Check.due("51", 4, x::changeCount);
        Check.due("15 of 0", 0, x::transfer);
        CrankCalculator y = Check.made("pins 8; wheels 8;");
        y.setPins(98765432);
        y.turn(1);
        y.clear(3);
        Check.due("15", 98765432, y::transfer);
        CrankCalculator z = jammed();
        throwsAndChangesNothing(z, "15 jammed", STATE, z::transfer);
    }

    private static void crankBack() {
        CrankCalculator x = Check.made("stuck 2;");
        throwsAndChangesNothing(x, "16 not jammed", STATE, x::crankBack);
        x.setPins(1345);
        Check.due("10", 0, () -> x.turn(1));
        Check.due("25 two wheels moved", 45, x::result);
        Check.due("30", 2, () -> x.jam(0));
        Check.due("30", 0, () -> x.jam(1));
        Check.due("16", 2, x::crankBack);
        Check.due("25", 0, x::result);
        Check.due("20", 0, () -> x.state(6));
        Check.due("31 forth and back", 10, () -> x.steps(0));
        Check.due("31 forth and back", 8, () -> x.steps(1));
        Check.due("31 not moved", 0, () -> x.steps(2));
        Check.due("21 turns", 0, () -> x.count(0));
        Check.due("21 jams stay", 1, () -> x.count(5));
        Check.due("26", 0, x::counter);
        Check.due("36", 0, x::dueResult);
        Check.due("28 still stuck", 2, () -> x.fault(2));
        Check.due("51", 3, x::changeCount);
        throwsAndChangesNothing(x, "16 once only", STATE, x::crankBack);
        Check.due("10 back", 0, () -> x.turn(-1));
        Check.due("25", 65, x::result);
        Check.due("29", 1, () -> x.isLeverSet(0) ? 1 : 0);
        Check.due("29", 1, () -> x.isLeverSet(1) ? 1 : 0);
        Check.due("16", 2, x::crankBack);
        Check.due("29", 0, () -> x.isLeverSet(0) || x.isLeverSet(1) ? 1 : 0);
        Check.due("25", 0, x::result);
        Check.due("31 forth and back", 20, () -> x.steps(0));
    }

    private static void crankBackOfCarries() {
        CrankCalculator x = Check.made("pins 3; wheels 6; stuck 3; slip 1;");
        x.setPins(555);
        x.turn(1);
        int[] before = {x.count(0), x.count(1), x.count(2), x.count(3), x.count(4)};
        // wheels 0 to 2 pass: a carry to wheel 1, one lost, one jams at wheel 3
        Check.due("10", 0, () -> x.turn(1));
        Check.due("25", 10, x::result);
        Check.due("21 carries", 1, () -> x.count(3));
        Check.due("21 lost", 1, () -> x.count(4));
        Check.due("29", 0, () -> x.isLeverSet(0) || x.isLeverSet(1) ? 1 : 0);
        Check.due("29", 1, () -> x.isLeverSet(2) ? 1 : 0);
        Check.due("16", 3, x::crankBack);
        for (int what = 0; what < 5; what++) {
            int w = what;
            Check.due("21 as before " + what, before[what], () -> x.count(w));
        }
        Check.due("25", 555, x::result);
        Check.due("31", 5 + 5 + 5, () -> x.steps(0));
        Check.due("31", 5 + 6 + 6, () -> x.steps(1));
        Check.due("31", 5 + 5 + 5, () -> x.steps(2));
    }

    /** The carries of earlier turns are not taken back. */
    private static void crankBackBehindCarries() {
        CrankCalculator x = Check.made("pins 3; wheels 6; slip 2;");
        x.setPins(555);
        x.turn(2);
        Check.due("21 carries", 2, () -> x.count(3));
        Check.due("21 lost", 1, () -> x.count(4));
        x.damage(1, 2);
        Check.due("10", 0, () -> x.turn(1));
        Check.due("16", 1, x::crankBack);
        Check.due("21 carries", 2, () -> x.count(3));
        Check.due("21 lost", 1, () -> x.count(4));
        Check.due("25", 110, x::result);
    }

    private static void crankBackOfMostWheels() {
        CrankCalculator x = Check.made("pins 8; wheels 16; stuck 15;");
        x.shift(8);
        x.setPins(11111111);
        Check.due("10", 0, () -> x.turn(-1));
        Check.due("16", 7, x::crankBack);
        Check.due("25", 0, x::result);
        Check.due("31", 18 - 16, () -> x.steps(14));
    }

    private static void crankBackFreed() {
        CrankCalculator x = Check.made("pins 3; wheels 6; stuck 0; stuck 2;");
        x.setPins(123);
        Check.due("10", 0, () -> x.turn(4));
        Check.due("17 jams again", 0, x::free);
        Check.due("30", 2, () -> x.jam(0));
        Check.due("25", 23, x::result);
        Check.due("16", 2, x::crankBack);
        Check.due("25", 0, x::result);
        Check.due("28 stays free", 0, () -> x.fault(0));
        Check.due("28 still stuck", 2, () -> x.fault(2));
        Check.due("21 jams", 2, () -> x.count(5));
        Check.due("20 faults", 1, () -> x.state(5));
        Check.due("31", 6, () -> x.steps(0));
    }

    private static void free() {
        CrankCalculator x = Check.made("pins 3; wheels 6; slip 1; stuck 1; stuck 3;");
        throwsAndChangesNothing(x, "17 not jammed", STATE, x::free);
        x.setPins(999);
        Check.due("10", 0, () -> x.turn(2));
        Check.due("17", 1, x::free);
        Check.due("25", 999, x::result);
        Check.due("28 still slips", 1, () -> x.fault(1));
        Check.due("21 turns", 1, () -> x.count(0));
        Check.due("26", 1, x::counter);
        Check.due("36", 999, x::dueResult);
        Check.due("10 jams in the levers", 0, () -> x.turn(1));
        Check.due("17", 1, x::free);
        // 999 + 999 = 1998, with the carry of wheel 1 lost
        Check.due("25", 1898, x::result);
        Check.due("21 carries", 2, () -> x.count(3));
        Check.due("21 lost", 1, () -> x.count(4));
        Check.due("21 jams", 2, () -> x.count(5));
        Check.due("51", 5, x::changeCount);
        throwsAndChangesNothing(x, "17 not jammed any more", STATE, x::free);
        Check.due("33 the log", 999, () -> x.logged(1, 2));
        // back, at another position
        CrankCalculator y = Check.made("pins 2; wheels 5; stuck 3;");
        y.shift(2);
        y.setPins(10);
        Check.due("10", 0, () -> y.turn(-3));
        Check.due("30", 3, () -> y.jam(0));
        Check.due("17", 1, y::free);
        Check.due("25", 99000, y::result);
        Check.due("26", 9900, y::counter);
        Check.due("21 back", 1, () -> y.count(1));
    }

    private static void damage() {
        CrankCalculator x = Check.made("pins 2; wheels 5; slip 4;");
        Check.due("18", 2, () -> x.damage(0, 1));
        Check.due("18 of all wheels", 3, () -> x.damage(0, 2));
        Check.due("18", 4, () -> x.damage(4, 2));
        Check.due("28", 3, () -> x.fault(0));
        Check.due("28", 3, () -> x.fault(4));
        Check.due("28", 0, () -> x.fault(1));
        Check.due("51", 3, x::changeCount);
        for (int wheel : new int[] {-1, 5, LEAST, GREATEST}) {
            throwsAndChangesNothing(x, "18 wheel", INDEX, () -> x.damage(wheel, 1));
            throwsAndChangesNothing(x, "18 wheel first", INDEX, () -> x.damage(wheel, 0));
        }
        for (int fault : new int[] {-1, 0, 3, LEAST, GREATEST}) {
            throwsAndChangesNothing(x, "18 fault", ARGUMENT, () -> x.damage(1, fault));
            throwsAndChangesNothing(x, "18 fault first", ARGUMENT, () -> x.damage(0, fault));
        }
        throwsAndChangesNothing(x, "18 already", STATE, () -> x.damage(0, 1));
        throwsAndChangesNothing(x, "18 already", STATE, () -> x.damage(0, 2));
        CrankCalculator y = jammed();
        throwsAndChangesNothing(y, "18 jammed", STATE, () -> y.damage(1, 1));
        throwsAndChangesNothing(y, "18 jammed, fault first", ARGUMENT, () -> y.damage(1, 3));
        throwsAndChangesNothing(y, "18 jammed, wheel first", INDEX, () -> y.damage(8, 3));
        CrankCalculator z = new CrankCalculator();
        z.damage(0, 1);
        z.setPins(5);
        z.turn(2);
        Check.due("18 slips", 0, z::result);
        z.damage(0, 2);
        Check.due("18 is stuck", 0, () -> z.turn(2));
    }

    private static void repair() {
        CrankCalculator x = Check.made("pins 2; wheels 5; slip 4; stuck 4; slip 2;");
        Check.due("19", 2, () -> x.repair(4));
        Check.due("28", 0, () -> x.fault(4));
        Check.due("20", 1, () -> x.state(5));
        Check.due("19", 0, () -> x.repair(4));
        Check.due("19", 1, () -> x.repair(2));
        Check.due("20", 0, () -> x.state(5));
        Check.due("51", 3, x::changeCount);
        x.damage(1, 2);
        Check.due("19", 1, () -> x.repair(1));
        for (int wheel : new int[] {-1, 5, LEAST, GREATEST}) {
            throwsAndChangesNothing(x, "19", INDEX, () -> x.repair(wheel));
        }
        CrankCalculator y = jammed();
        throwsAndChangesNothing(y, "19 jammed", STATE, () -> y.repair(0));
        throwsAndChangesNothing(y, "19 jammed, wheel first", INDEX, () -> y.repair(8));
    }

    private static void jammedDoesNothingElse() {
        CrankCalculator x = jammed();
        Check.due("48", 0, () -> x.save(1));
        Check.due("49", 0, () -> x.restore(1));
        Check.due("20 jammed", 1, () -> x.state(6));
        Check.due("50", 2, x::undo);
        Check.due("50", 1, x::undo);
        Check.due("20 not jammed", 0, () -> x.state(6));
        Check.due("49", 0, () -> x.restore(1));
        Check.due("20 jammed", 1, () -> x.state(6));
        Check.due("4", 8, x::setup);
        Check.due("20 not jammed", 0, () -> x.state(6));
    }
}
