import java.util.function.LongSupplier;

/** Promises 36 to 47: checks and predictions. */
public final class PredictionsTest {
    private static final Class<IllegalStateException> STATE = IllegalStateException.class;
    private static final Class<IllegalArgumentException> ARGUMENT = IllegalArgumentException.class;
    private static final int LEAST = Integer.MIN_VALUE;
    private static final int GREATEST = Integer.MAX_VALUE;

    public static void main(String[] args) {
        dueResult();
        wrongResult();
        unfinishedTurn();
        mostWheels();
        error();
        residue();
        resultAfter();
        resultAfterJam();
        movedBy();
        ripple();
        turnsToBell();
        turnsToBellJams();
        turnsFor();
        soundness();
        Check.end();
    }

    private static CrankCalculator jammed() {
        CrankCalculator x = Check.made("stuck 0;");
        x.setPins(1);
        x.turn(1);
        return x;
    }

    /** Asks, and looks whether the machine is as it was. */
    private static void predicts(CrankCalculator x, String call, long want, LongSupplier answer) {
        String before = Check.portrait(x);
        int changes = x.changeCount();
        Check.due(call, want, answer);
        Check.dueText(call + " changes nothing", before, Check.portrait(x));
        Check.due(call + " is no change", changes, x::changeCount);
    }

    private static void dueResult() {
        CrankCalculator x = Check.made("pins 2; wheels 4; slip 0; slip 1; slip 2;");
        Check.due("36", 0, x::dueResult);
        x.setPins(75);
        x.turn(3);
        Check.due("36", 225, x::dueResult);
        Check.due("25", 15, x::result);
        x.shift(2);
        x.turn(1);
        Check.due("36", 7725, x::dueResult);
        x.turn(1);
        Check.due("36 modulo", 5225, x::dueResult);
        x.turn(-1);
        Check.due("36 modulo", 7725, x::dueResult);
        x.turn(-2);
        Check.due("36 modulo", 2725, x::dueResult);
        x.clear(2);
        x.clear(3);
        Check.due("36 stays", 2725, x::dueResult);
        x.clear(1);
        Check.due("36 cleared", 0, x::dueResult);
        x.setPins(1);
        x.shift(-2);
        x.turn(-1);
        Check.due("36 below 0", 9999, x::dueResult);
        x.clear(0);
        Check.due("36 cleared", 0, x::dueResult);
        CrankCalculator y = Check.made("pins 8; wheels 16;");
        y.setPins(99999999);
        y.shift(8);
        y.turn(99);
        Check.due("36 greatest", 9999990100000000L, y::dueResult);
        y.turn(-99);
        y.shift(-8);
        y.turn(-1);
        Check.due("36 greatest", 9999999900000001L, y::dueResult);
        y.transfer();
        Check.due("36 transferred", 0, y::dueResult);
        // multiplying and dividing are turns too
        CrankCalculator z = new CrankCalculator();
        z.setPins(37);
        z.multiply(999, true);
        Check.due("36 multiplied", 36963, z::dueResult);
        z.setPins(2);
        z.divide();
        Check.due("36 divided", 1, z::dueResult);
    }

    private static void wrongResult() {
        CrankCalculator x = Check.made("pins 2; wheels 5; slip 1; slip 3;");
        Check.isTrue("37", x::isRight);
        Check.due("38", -1, x::firstWrong);
        Check.due("39", 0, x::wrongDigits);
        x.setPins(50);
        x.turn(1);
        Check.isTrue("37", x::isRight);
        x.turn(1);
        Check.isFalse("37", x::isRight);
        Check.due("38", 2, x::firstWrong);
        Check.due("39", 1, x::wrongDigits);
        Check.due("40", -100, x::error);
        x.shift(2);
        x.turn(2);
        Check.due("36", 10100, x::dueResult);
        Check.due("25", 0, x::result);
        Check.due("38 the lowest", 2, x::firstWrong);
        Check.due("39", 2, x::wrongDigits);
        Check.due("40", -10100, x::error);
        x.turn(-2);
        x.shift(-2);
        // back over the slipping lever: what was too little is too much
        Check.due("25", 0, x::result);
        Check.due("36", 100, x::dueResult);
        x.turn(-2);
        Check.due("25", 0, x::result);
        Check.isTrue("37 right again", x::isRight);
        x.turn(-1);
        Check.due("25", 50, x::result);
        Check.due("36", 99950, x::dueResult);
        Check.due("38", 2, x::firstWrong);
        Check.due("39", 3, x::wrongDigits);
        x.clear(1);
        Check.isTrue("37 cleared", x::isRight);
        CrankCalculator y = Check.made("pins 2; wheels 3; slip 0;");
        y.setPins(15);
        y.turn(2);
        Check.due("38", 1, y::firstWrong);
        Check.due("39", 1, y::wrongDigits);
        CrankCalculator z = Check.made("pins 2; wheels 2; slip 0;");
        z.setPins(1);
        z.turn(-1);
        Check.due("38 not the highest first", 1, z::firstWrong);
        Check.due("40", 9 - 99, z::error);
    }

    private static void unfinishedTurn() {
        CrankCalculator x = Check.made("pins 3; wheels 5; stuck 1;");
        x.setPins(12);
        x.turn(1);
        Check.due("25", 2, x::result);
        Check.due("36", 0, x::dueResult);
        Check.isFalse("37", x::isRight);
        Check.due("38", 0, x::firstWrong);
        Check.due("39", 1, x::wrongDigits);
        Check.due("40", 2, x::error);
        Check.due("41", 2, x::residue);
        x.free();
        Check.isTrue("37", x::isRight);
        Check.due("36", 12, x::dueResult);
        CrankCalculator y = Check.made("stuck 0;");
        y.setPins(1);
        y.turn(1);
        Check.isTrue("37 nothing moved yet", y::isRight);
    }

    private static void mostWheels() {
        CrankCalculator x = Check.made("pins 8; wheels 16; slip 7; slip 14;");
        x.setPins(99999999);
        x.shift(8);
        x.turn(1);
        Check.due("32 the lowest", 8, x::busiest);
        Check.due("38", -1, x::firstWrong);
        Check.due("39", 0, x::wrongDigits);
        Check.due("41", 0, x::residue);
        x.setPins(20000000);
        x.turn(1);
        Check.due("32 the highest wheel", 15, x::busiest);
        x.setPins(5000000);
        x.turn(1);
        Check.due("38 the highest wheel", 15, x::firstWrong);
        Check.due("39", 1, x::wrongDigits);
        Check.due("41", (1 + 4 + 6 * 9) % 9, x::residue);
    }

    private static void error() {
        CrankCalculator x = Check.made("pins 8; wheels 16; reach 0;");
        x.setPins(1);
        x.turn(-1);
        Check.due("40 less", 99999999L - 9999999999999999L, x::error);
        x.turn(1);
        Check.due("40 none", 0, x::error);
        x.setPins(99999999);
        x.turn(2);
        x.setPins(99999998);
        x.turn(-1);
        Check.due("36", 100000000, x::dueResult);
        Check.due("40", -100000000, x::error);
        x.turn(-1);
        x.setPins(2);
        x.turn(-1);
        Check.due("36", 0, x::dueResult);
        Check.due("40 none again", 0, x::error);
        CrankCalculator y = Check.made("pins 2; wheels 2; slip 0;");
        y.setPins(10);
        y.turn(1);
        y.setPins(1);
        y.turn(-1);
        Check.due("40 more", 10, y::error);
    }

    private static void residue() {
        CrankCalculator x = Check.made("pins 3; wheels 5;");
        Check.due("41", 0, x::residue);
        x.setPins(135);
        x.turn(1);
        Check.due("41 nine", 0, x::residue);
        x.setPins(800);
        x.turn(1);
        Check.due("41", 935 % 9, x::residue);
        x.shift(2);
        x.setPins(987);
        x.turn(1);
        Check.due("41 all wheels", (9 + 9 + 6 + 3 + 5) % 9, x::residue);
    }

    private static void resultAfter() {
        CrankCalculator x = Check.made("pins 3; wheels 6; slip 2;");
        x.setPins(123);
        x.turn(5);
        predicts(x, "42", 615 + 123, () -> x.resultAfter(1));
        predicts(x, "42", 615 - 123, () -> x.resultAfter(-1));
        predicts(x, "42 with the fault", 107, () -> x.resultAfter(4));
        predicts(x, "42", 177, () -> x.resultAfter(94) % 1000);
        predicts(x, "42", (123 * 104) % 1000, () -> x.resultAfter(99));
        predicts(x, "42", Math.floorMod(123 * -94, 1000), () -> x.resultAfter(-99));
        for (int turns : new int[] {0, 100, -100, LEAST, GREATEST}) {
            Check.dueThrow("42", ARGUMENT, () -> x.resultAfter(turns));
        }
        x.shift(3);
        predicts(x, "42 shifted", 123615, () -> x.resultAfter(1));
        CrankCalculator y = jammed();
        Check.dueThrow("42 jammed", STATE, () -> y.resultAfter(1));
        Check.dueThrow("42 jammed, number first", ARGUMENT, () -> y.resultAfter(0));
    }

    private static void resultAfterJam() {
        CrankCalculator x = Check.made("pins 2; wheels 4; stuck 2;");
        x.setPins(45);
        // 45, 90, then 5 + 0 sets a lever, 4 + 9 another one, and wheel 2 is stuck
        predicts(x, "42 at the jam", 35, () -> x.resultAfter(3));
        predicts(x, "42 at the jam", 35, () -> x.resultAfter(99));
        predicts(x, "42 before the jam", 90, () -> x.resultAfter(2));
        predicts(x, "42 at the jam back", 55, () -> x.resultAfter(-1));
    }

    private static void movedBy() {
        CrankCalculator x = Check.made("pins 3; wheels 6; slip 4;");
        predicts(x, "43 none", 0, () -> x.movedBy(true));
        predicts(x, "43 none", 0, () -> x.movedBy(false));
        x.setPins(101);
        predicts(x, "43", 2, () -> x.movedBy(true));
        predicts(x, "43 back over 0", 5, () -> x.movedBy(false));
        x.turn(9);
        // 909
        predicts(x, "43", 4, () -> x.movedBy(true));
        predicts(x, "43", 2, () -> x.movedBy(false));
        // ten steps count too: 09 + 99
        CrankCalculator y = Check.made("pins 2; wheels 2;");
        y.setPins(9);
        y.turn(1);
        y.setPins(99);
        predicts(y, "43", 2, () -> y.movedBy(true));
        CrankCalculator z = Check.made("pins 3; wheels 6; stuck 1; stuck 3;");
        z.setPins(901);
        predicts(z, "43", 2, () -> z.movedBy(true));
        z.turn(1);
        predicts(z, "43 before the jam at wheel 3", 2, () -> z.movedBy(true));
        z.setPins(111);
        predicts(z, "43 before the jam at wheel 1", 1, () -> z.movedBy(true));
        z.turn(1);
        Check.dueThrow("43 jammed", STATE, () -> z.movedBy(true));
        Check.dueThrow("43 jammed", STATE, () -> z.movedBy(false));
    }

    private static void ripple() {
        CrankCalculator x = Check.made("pins 2; wheels 8;");
        predicts(x, "44 none", 0, () -> x.ripple(true));
        x.setPins(1);
        predicts(x, "44 none", 0, () -> x.ripple(true));
        predicts(x, "44 all but the highest", 7, () -> x.ripple(false));
        x.turn(-1);
        predicts(x, "44 all but the highest", 7, () -> x.ripple(true));
        predicts(x, "44 none", 0, () -> x.ripple(false));
        // two ripples in one turn: of wheels 0 and 1, and of wheels 3 to 5
        CrankCalculator y = Check.made("pins 8; wheels 8;");
        y.setPins(999099);
        y.turn(1);
        y.setPins(1001);
        predicts(y, "44 the longest", 3, () -> y.ripple(true));
        y.clear(1);
        y.setPins(99099);
        y.turn(1);
        y.setPins(1001);
        predicts(y, "44 both as long", 2, () -> y.ripple(true));
        y.clear(1);
        y.setPins(9099);
        y.turn(1);
        y.setPins(1001);
        predicts(y, "44 the first is longest", 2, () -> y.ripple(true));
        // a lost carry ends a ripple
        y.clear(1);
        y.setPins(99999);
        y.turn(1);
        y.setPins(11111);
        predicts(y, "44", 5, () -> y.ripple(true));
        y.damage(2, 1);
        predicts(y, "44 slips", 2, () -> y.ripple(true));
        y.damage(4, 2);
        y.setPins(1);
        predicts(y, "44 slips", 2, () -> y.ripple(true));
        y.repair(2);
        predicts(y, "44 those before the jam", 3, () -> y.ripple(true));
        y.damage(0, 2);
        predicts(y, "44 a jam in the pins", 0, () -> y.ripple(true));
        CrankCalculator z = Check.made("pins 2; wheels 8; reach 2;");
        z.setPins(1);
        predicts(z, "44 the reach", 3, () -> z.ripple(false));
        CrankCalculator u = jammed();
        Check.dueThrow("44 jammed", STATE, () -> u.ripple(true));
        Check.dueThrow("44 jammed", STATE, () -> u.ripple(false));
    }

    private static void turnsToBell() {
        CrankCalculator x = Check.made("pins 2; wheels 3;");
        x.setPins(10);
        predicts(x, "45", 100, () -> x.turnsToBell(true, 999));
        predicts(x, "45", 100, () -> x.turnsToBell(true, 100));
        predicts(x, "45 not in so many", -1, () -> x.turnsToBell(true, 99));
        predicts(x, "45 back", 1, () -> x.turnsToBell(false, 1));
        x.turn(3);
        predicts(x, "45 back", 4, () -> x.turnsToBell(false, 4));
        predicts(x, "45 back", -1, () -> x.turnsToBell(false, 3));
        x.setPins(1);
        predicts(x, "45 most", 970, () -> x.turnsToBell(true, 999));
        x.setPins(0);
        predicts(x, "45 never", -1, () -> x.turnsToBell(true, 999));
        for (int most : new int[] {0, -1, 1000, LEAST, GREATEST}) {
            Check.dueThrow("45", ARGUMENT, () -> x.turnsToBell(true, most));
        }
        CrankCalculator y = Check.made("pins 2; wheels 3;");
        y.setPins(1);
        predicts(y, "45 most", -1, () -> y.turnsToBell(true, 999));
        y.turn(1);
        predicts(y, "45 the 999th", 999, () -> y.turnsToBell(true, 999));
        CrankCalculator z = jammed();
        Check.dueThrow("45 jammed", STATE, () -> z.turnsToBell(true, 5));
        Check.dueThrow("45 jammed, number first", ARGUMENT, () -> z.turnsToBell(true, 0));
    }

    private static void turnsToBellJams() {
        CrankCalculator x = Check.made("pins 2; wheels 3; stuck 1;");
        x.shift(1);
        x.setPins(50);
        predicts(x, "45", 2, () -> x.turnsToBell(true, 9));
        x.shift(-1);
        x.setPins(5);
        predicts(x, "45 a jam before", -1, () -> x.turnsToBell(true, 999));
        predicts(x, "45 a jam before", -1, () -> x.turnsToBell(false, 999));
    }

    private static void turnsFor() {
        CrankCalculator x = Check.made("pins 8; wheels 8;");
        predicts(x, "46", 0, () -> x.turnsFor(0, false));
        predicts(x, "46", 0, () -> x.turnsFor(0, true));
        predicts(x, "46", 5, () -> x.turnsFor(5, true));
        predicts(x, "46", 5, () -> x.turnsFor(6, true));
        predicts(x, "46", 2, () -> x.turnsFor(9, true));
        predicts(x, "46", 21, () -> x.turnsFor(123456, false));
        // 4 back; 6: 4 back; 5; 3; 2; 1
        predicts(x, "46", 4 + 4 + 5 + 3 + 2 + 1, () -> x.turnsFor(123456, true));
        predicts(x, "46", 54, () -> x.turnsFor(999999, false));
        predicts(x, "46", 2, () -> x.turnsFor(999999, true));
        predicts(x, "46", 6, () -> x.turnsFor(600000, false));
        predicts(x, "46", 5, () -> x.turnsFor(600000, true));
        for (int number : new int[] {-1, 1000000, LEAST, GREATEST}) {
            Check.dueThrow("46", ARGUMENT, () -> x.turnsFor(number, false));
            Check.dueThrow("46", ARGUMENT, () -> x.turnsFor(number, true));
        }
        CrankCalculator y = jammed();
        Check.due("46 jammed", 17, () -> y.turnsFor(98, false));
    }

    private static void soundness() {
        CrankCalculator x = Check.made("pins 2; wheels 4; slip 1;");
        Check.dueFloat("47 none", 1f, x.soundness());
        x.setPins(5);
        x.turn(2);
        Check.dueFloat("47 one", 1f, x.soundness());
        x.setPins(50);
        x.turn(2);
        Check.dueFloat("47", 0.5f, x.soundness());
        x.turn(2);
        Check.dueFloat("47", 1f / 3f, x.soundness());
        x.clear(0);
        x.shift(2);
        x.setPins(90);
        x.turn(2);
        Check.dueFloat("47 the bell is no carry", 1f / 3f, x.soundness());
        CrankCalculator y = Check.made("pins 2; wheels 2; slip 0;");
        y.setPins(1);
        y.turn(-1);
        Check.dueFloat("47 all lost", 0f, y.soundness());
    }
}
