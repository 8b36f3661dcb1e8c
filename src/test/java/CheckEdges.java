import java.util.function.ToLongFunction;

/** Promises 36 to 47: checks and predictions. */
final class CheckEdges extends Edge {
    private CheckEdges() {
    }

    static void all() {
        dueResult();
        isRight();
        firstWrong();
        wrongDigits();
        error();
        residue();
        resultAfter();
        movedBy();
        ripple();
        turnsToBell();
        turnsToBellRefused();
        turnsFor();
        soundness();
    }

    /** Asks, and looks whether all is as it was. */
    private static void told(String call, long want, CrankCalculator x, ToLongFunction<CrankCalculator> answer) {
        String before = whole(x);
        due(call, want, () -> answer.applyAsLong(x));
        dueText(call + " changes nothing", before, whole(x));
    }

    private static void dueResult() {
        promise(36, "Returns the due result.", () -> {
            told("right", 36, at("", "set 12; turn 3;"), CrankCalculator::dueResult);
            told("not the result", 100, at("slip 1;", "set 50; turn 2;"), CrankCalculator::dueResult);
            told("of a jammed machine", 50, at("stuck 2;", "set 50; turn 2;"), CrankCalculator::dueResult);
        });
        promise(36, "Returns the number.", () -> {
            told("the least", 0, new CrankCalculator(), CrankCalculator::dueResult);
            told("the greatest of 2 wheels", 99, at("pins 2; wheels 2;", "set 1; turn -1;"), CrankCalculator::dueResult);
            told("the greatest of all", 9999999999999999L, at("wheels 16;", "set 1; turn -1;"), CrankCalculator::dueResult);
        });
    }

    private static void isRight() {
        promise(37, "Tells whether the result is the due one.", () -> {
            told("right", 1, at("", "set 12; turn 3;"), x -> x.isRight() ? 1 : 0);
            told("wrong", 0, at("slip 1;", "set 50; turn 2;"), x -> x.isRight() ? 1 : 0);
        });
        promise(37, "An unfinished turn counts as it stands.", () -> {
            told("jammed, before any wheel moved", 1, jammed(), x -> x.isRight() ? 1 : 0);
            told("jammed, one wheel moved", 0, at("stuck 1;", "set 12; turn 1;"), x -> x.isRight() ? 1 : 0);
            CrankCalculator x = at("stuck 1;", "set 12; turn 1;");
            x.free();
            isTrue("finished", x::isRight);
            CrankCalculator y = at("stuck 1;", "set 12; turn 1;");
            y.crankBack();
            isTrue("cranked back", y::isRight);
        });
        promise(37, "Returns whether it is.", () -> {
            isTrue("of a new machine", new CrankCalculator()::isRight);
            isFalse("the highest digit", at("pins 2; wheels 3; slip 1;", "set 50; turn 2;")::isRight);
            isTrue("cleared", at("pins 2; wheels 3; slip 1;", "set 50; turn 2; clear result;")::isRight);
            isTrue("wrong twice is right", at("pins 2; wheels 3; slip 1;", "set 50; turn 2; turn -1;")::isRight);
        });
    }

    private static void firstWrong() {
        promise(38, "Returns the lowest result wheel whose digit is not that of the due result.", () -> {
            told("one", 2, at("slip 1;", "set 50; turn 2;"), CrankCalculator::firstWrong);
            told("two", 2, at("pins 2; wheels 5; slip 1; slip 3;", "set 50; turn 2; shift 2; turn 2;"),
                CrankCalculator::firstWrong);
            told("an unfinished turn", 0, at("stuck 1;", "set 12; turn 1;"), CrankCalculator::firstWrong);
        });
        promise(38, "Returns the number of the wheel, NONE if there is none.", () -> {
            told("the highest", 7, at("slip 6;", "shift 4; set 500; turn 2;"), CrankCalculator::firstWrong);
            told("the sixteenth", 15, at("pins 2; wheels 16; slip 14;", "shift 13; set 50; turn 2;"),
                CrankCalculator::firstWrong);
            told("the lowest", 0, at("stuck 1;", "set 12; turn -1;"), CrankCalculator::firstWrong);
            told("none", -1, at("", "set 50; turn 2;"), CrankCalculator::firstWrong);
            told("none of a new machine", -1, new CrankCalculator(), CrankCalculator::firstWrong);
            told("none of 16", -1, at("wheels 16;", "set 1; turn -1;"), CrankCalculator::firstWrong);
        });
    }

    private static void wrongDigits() {
        promise(39, "Returns the number of result wheels whose digits are not those of the due result.", () -> {
            told("none", 0, at("", "set 50; turn 2;"), CrankCalculator::wrongDigits);
            told("one", 1, at("slip 1;", "set 50; turn 2;"), CrankCalculator::wrongDigits);
            told("two", 2, at("pins 2; wheels 5; slip 1; slip 3;", "set 50; turn 2; shift 2; turn 2;"),
                CrankCalculator::wrongDigits);
            // 9 instead of 999
            told("all above the slipping lever", 2, at("pins 2; wheels 3; slip 0;", "set 1; turn -1;"),
                CrankCalculator::wrongDigits);
        });
        promise(39, "Returns the number of wheels.", () -> {
            told("all but the lowest", 15, at("pins 2; wheels 16; slip 0;", "set 1; turn -1;"), CrankCalculator::wrongDigits);
            told("all of 16", 16, wrongEverywhere(), CrankCalculator::wrongDigits);
            told("an unfinished turn", 1, at("stuck 1;", "set 12; turn 1;"), CrankCalculator::wrongDigits);
        });
    }

    /** The lost carry leaves 9 where 9999999999999999 is due, and the next turn jams when it has made an 8 of it. */
    private static CrankCalculator wrongEverywhere() {
        CrankCalculator x = at("pins 2; wheels 16; slip 0;", "set 1; turn -1; set 11;");
        x.damage(1, 2);
        x.turn(-1);
        return x;
    }

    private static void error() {
        promise(40, "Returns by how much the result is greater than the due one.", () -> {
            told("none", 0, at("", "set 50; turn 2;"), CrankCalculator::error);
            told("greater", 10, at("pins 2; wheels 2; slip 0;", "set 10; turn 1; set 1; turn -1;"), CrankCalculator::error);
            told("an unfinished turn", 2, at("stuck 1;", "set 12; turn 1;"), CrankCalculator::error);
        });
        promise(40, "Returns the result minus the due result, which can be negative.", () -> {
            told("less", -100, at("slip 1;", "set 50; turn 2;"), CrankCalculator::error);
            told("an unfinished turn back", -2, unfinishedBack(), CrankCalculator::error);
            told("the least", 9 - 9999999999999999L, at("wheels 16; slip 0;", "set 1; turn -1;"), CrankCalculator::error);
            told("the greatest", 9999999999999990L, slippedForward(), CrankCalculator::error);
        });
    }

    private static CrankCalculator unfinishedBack() {
        CrankCalculator x = at("", "set 22; turn 1; set 12;");
        x.damage(1, 2);
        x.turn(-1);
        return x;
    }

    /** The lever slips on the way forward alone, which leaves 9999999999999990 where 0 is due. */
    private static CrankCalculator slippedForward() {
        CrankCalculator x = at("wheels 16;", "set 1; turn -1; set 1;");
        x.damage(0, 1);
        x.turn(1);
        return x;
    }

    private static void residue() {
        promise(41, "Returns the sum of the digits of the result, modulo 9.", () -> {
            told("1 + 2", 3, at("", "set 12; turn 1;"), CrankCalculator::residue);
            told("9 and 8", 8, at("", "set 98; turn 1;"), CrankCalculator::residue);
            told("not of the due one", 0, at("slip 1;", "set 50; turn 2;"), CrankCalculator::residue);
            told("an unfinished turn", 2, at("stuck 1;", "set 12; turn 1;"), CrankCalculator::residue);
            told("all wheels", 6, at("", "shift 4; set 8700; turn 1;"), CrankCalculator::residue);
        });
        promise(41, "Returns 0 to 8.", () -> {
            told("of 0", 0, new CrankCalculator(), CrankCalculator::residue);
            told("of 8", 8, at("", "set 8; turn 1;"), CrankCalculator::residue);
            told("of 9", 0, at("", "set 9; turn 1;"), CrankCalculator::residue);
            told("of 10", 1, at("", "set 10; turn 1;"), CrankCalculator::residue);
            told("of sixteen nines", 0, at("wheels 16;", "set 1; turn -1;"), CrankCalculator::residue);
        });
    }

    private static void resultAfter() {
        promise(42, "Predicts the result behind turns.", () -> {
            String machine = "pins 3; wheels 6; slip 2;";
            told("one", 738, at(machine, "set 123; turn 5;"), x -> x.resultAfter(1));
            told("with the fault", 107, at(machine, "set 123; turn 5;"), x -> x.resultAfter(4));
            told("at the position of the carriage", 1845, at("pins 3; wheels 6;", "set 123; turn 5; shift 1;"),
                y -> y.resultAfter(1));
            CrankCalculator z = at("", "set 7; turn 3;");
            long predicted = z.resultAfter(9);
            z.turn(9);
            due("what is predicted comes", predicted, z::result);
        });
        promise(42, "`turns`: 1 to 99 forward, or -1 to -99 back", () -> {
            String machine = "pins 2; wheels 5;";
            told("1", 612, at(machine, "set 60; turn 10; set 12;"), x -> x.resultAfter(1));
            told("99", 600 + 12 * 99, at(machine, "set 60; turn 10; set 12;"), x -> x.resultAfter(99));
            told("-1", 588, at(machine, "set 60; turn 10; set 12;"), x -> x.resultAfter(-1));
            told("-99", 100000 + 600 - 12 * 99, at(machine, "set 60; turn 10; set 12;"), x -> x.resultAfter(-99));
        });
        promise(42, "Returns the result; that at the jam if one of them jams.", () -> {
            // 45, 90, then wheels 0 and 1 pass, and wheel 2 is stuck
            CrankCalculator x = at("pins 2; wheels 4; stuck 2;", "set 45;");
            told("before the jam", 90, x, y -> y.resultAfter(2));
            told("at the jam", 35, x, y -> y.resultAfter(3));
            told("behind the jam", 35, x, y -> y.resultAfter(99));
            told("at the jam back", 55, x, y -> y.resultAfter(-1));
            told("at once", 0, at("stuck 0;", "set 1;"), y -> y.resultAfter(5));
            told("the greatest", 9999999999999999L, at("wheels 16;", "set 1;"), y -> y.resultAfter(-1));
        });
        promise(42, "Throws `IllegalArgumentException` if the number is 0 or out of range", () -> {
            for (int turns : new int[] {0, 100, -100, LEAST, GREATEST}) {
                refused(CrankCalculator::new, ARGUMENT, "resultAfter(" + turns + ")", x -> x.resultAfter(turns));
                dueThrow("before the jam", ARGUMENT, () -> jammed().resultAfter(turns));
            }
        });
        promise(42, "Throws `IllegalStateException` if the machine is jammed", () -> {
            refused(Edge::jammed, STATE, "resultAfter(1)", x -> x.resultAfter(1));
            refused(Edge::jammed, STATE, "resultAfter(-99)", x -> x.resultAfter(-99));
        });
    }

    private static void movedBy() {
        promise(43, "Predicts how many result wheels would move in the next turn.", () -> {
            CrankCalculator x = at("pins 3; wheels 6; slip 4;", "set 101; turn 9;");
            told("909 + 101", 4, x, y -> y.movedBy(true));
            told("909 - 101", 2, x, y -> y.movedBy(false));
            told("pins 0", 0, new CrankCalculator(), y -> y.movedBy(true));
            told("ten steps", 2, at("pins 2; wheels 2;", "set 9; turn 1; set 91;"), y -> y.movedBy(true));
            told("not by what moved before", 1, at("", "set 1111; turn 1; set 1;"), y -> y.movedBy(true));
        });
        promise(43, "`isForward`: whether it is a turn forward", () -> {
            CrankCalculator x = at("", "set 1;");
            told("forward", 1, x, y -> y.movedBy(true));
            told("back", 8, x, y -> y.movedBy(false));
        });
        promise(43, "Returns the number of wheels; those that move before the jam if it jams.", () -> {
            told("none", 0, at("stuck 0;", "set 1111;"), y -> y.movedBy(true));
            told("by the pins", 2, at("stuck 2;", "set 1111;"), y -> y.movedBy(true));
            told("a jam by a carry", 3, at("stuck 3;", "set 999; turn 1; set 1;"), y -> y.movedBy(true));
            told("all of 16", 16, at("wheels 16;", "set 1;"), y -> y.movedBy(false));
            told("all but the highest", 15, at("wheels 16; stuck 15;", "set 1;"), y -> y.movedBy(false));
        });
        promise(43, "Throws `IllegalStateException` if the machine is jammed", () -> {
            refused(Edge::jammed, STATE, "movedBy(true)", x -> x.movedBy(true));
            refused(Edge::jammed, STATE, "movedBy(false)", x -> x.movedBy(false));
        });
    }

    private static void ripple() {
        promise(44, "Predicts the longest ripple of the next turn: the greatest number of neighbouring wheels whose levers"
            + " are released and move the next wheel, one after the other; in a turn that jams, those before the jam.", () -> {
            String eight = "pins 8; wheels 8;";
            told("of two, the second", 3, at(eight, "set 999099; turn 1; set 1001;"), y -> y.ripple(true));
            told("of two, the first", 2, at(eight, "set 9099; turn 1; set 1001;"), y -> y.ripple(true));
            told("of two as long", 2, at(eight, "set 99099; turn 1; set 1001;"), y -> y.ripple(true));
            told("levers set by pins", 5, at(eight, "set 99999; turn 1; set 11111;"), y -> y.ripple(true));
            told("a lost carry between", 2, at(eight + "slip 2;", "set 99999; turn 1; set 11111;"), y -> y.ripple(true));
            told("a longer one behind a lost carry", 3, at(eight + "slip 1;", "set 99999; turn 1; set 11111;"),
                y -> y.ripple(true));
            told("a lost carry at the end", 2, at(eight + "slip 2;", "set 99999; turn 1; set 1;"), y -> y.ripple(true));
            told("the reach", 3, at("pins 2; wheels 8; reach 2;", "set 1;"), y -> y.ripple(false));
            told("the bell is no carry", 7, at(eight, "set 1;"), y -> y.ripple(false));
            told("before the jam", 3, at(eight + "stuck 4;", "set 1;"), y -> y.ripple(false));
            told("a jam behind the first carry", 0, at(eight + "stuck 1;", "set 1;"), y -> y.ripple(false));
            told("a jam in the pins", 0, at(eight + "stuck 3;", "set 999; turn 1; set 1001;"), y -> y.ripple(true));
            told("not that of the turns before", 1, at(eight, "set 1; turn -1; turn 1; set 5; turn 1;"), y -> y.ripple(true));
            told("not with that of the turn before, which rang", 7, at(eight, "set 1; turn -1;"), y -> y.ripple(true));
            told("not that of the turn before", 0, at(eight, "set 1; turn -1; set 10;"), y -> y.ripple(false));
            told("a longer one before the jam", 2, at(eight + "stuck 5;", "set 90099; turn 1; set 90001;"),
                y -> y.ripple(true));
        });
        promise(44, "`isForward`: whether it is a turn forward", () -> {
            CrankCalculator x = at("", "set 1;");
            told("forward", 0, x, y -> y.ripple(true));
            told("back", 7, x, y -> y.ripple(false));
        });
        promise(44, "Returns the number of carries, 0 if there are none.", () -> {
            told("pins 0", 0, new CrankCalculator(), y -> y.ripple(false));
            told("all lost", 0, at("slip 0;", "set 1;"), y -> y.ripple(false));
            told("the bell alone", 0, at("pins 2; wheels 2;", "set 50; turn 1;"), y -> y.ripple(true));
            told("one", 1, at("", "set 5; turn 1;"), y -> y.ripple(true));
            told("the most", 15, at("wheels 16;", "set 1;"), y -> y.ripple(false));
        });
        promise(44, "Throws `IllegalStateException` if the machine is jammed", () -> {
            refused(Edge::jammed, STATE, "ripple(true)", x -> x.ripple(true));
            refused(Edge::jammed, STATE, "ripple(false)", x -> x.ripple(false));
        });
    }

    private static void turnsToBell() {
        promise(45, "Predicts behind how many turns the bell rings for the first time.", () -> {
            CrankCalculator x = at("pins 2; wheels 2;", "set 30; turn 5;");
            due("it has rung already", 1, () -> x.count(2));
            told("50, 80, 10", 2, x, y -> y.turnsToBell(true, 9));
            told("50, 20, 90", 2, x, y -> y.turnsToBell(false, 9));
        });
        promise(45, "`isForward`: whether the turns are forward", () -> {
            CrankCalculator x = at("pins 2; wheels 2;", "set 10; turn 3;");
            told("forward", 7, x, y -> y.turnsToBell(true, 99));
            told("back", 4, x, y -> y.turnsToBell(false, 99));
        });
        promise(45, "`most`: how many turns are looked at, 1 to 999", () -> {
            CrankCalculator x = at("pins 2; wheels 3;", "set 1; turn 1;");
            told("1", -1, x, y -> y.turnsToBell(true, 1));
            told("998", -1, x, y -> y.turnsToBell(true, 998));
            told("999", 999, x, y -> y.turnsToBell(true, 999));
            told("back, 1", -1, x, y -> y.turnsToBell(false, 1));
            told("back, 2", 2, x, y -> y.turnsToBell(false, 2));
            told("the 1000th is not looked at", -1, at("pins 2; wheels 3;", "set 1;"), y -> y.turnsToBell(true, 999));
        });
        promise(45, "Returns the number of turns, the one in which it rings included; NONE if it does not ring in so many,"
            + " or a turn jams before.", () -> {
            told("in the first", 1, at("", "set 1;"), y -> y.turnsToBell(false, 1));
            told("in the last", 10, at("pins 2; wheels 2;", "set 10;"), y -> y.turnsToBell(true, 10));
            told("not in so many", -1, at("pins 2; wheels 2;", "set 10;"), y -> y.turnsToBell(true, 9));
            told("never", -1, new CrankCalculator(), y -> y.turnsToBell(true, 999));
            told("a jam at once", -1, at("stuck 0;", "set 1;"), y -> y.turnsToBell(false, 9));
            told("a jam before", -1, at("pins 2; wheels 2; stuck 1;", "set 1;"), y -> y.turnsToBell(true, 999));
            // wheel 2 rings the bell in the second turn, wheel 0 jams at wheel 1 in the fourth
            told("a jam behind it", 2, at("pins 3; wheels 3; stuck 1;", "set 503;"), y -> y.turnsToBell(true, 9));
            // wheel 0 jams in the second turn, wheel 2 would ring in the fifth
            told("a jam before it", -1, at("pins 3; wheels 3; stuck 1;", "set 205;"), y -> y.turnsToBell(true, 9));
            told("a jam in this very turn", -1, at("pins 3; wheels 3; stuck 1;", "set 505; turn 1;"),
                y -> y.turnsToBell(true, 9));
        });
    }

    private static void turnsToBellRefused() {
        promise(45, "Throws `IllegalArgumentException` if the number is out of range", () -> {
            for (int most : new int[] {0, -1, 1000, LEAST, GREATEST}) {
                refused(CrankCalculator::new, ARGUMENT, "turnsToBell(true, " + most + ")", x -> x.turnsToBell(true, most));
                dueThrow("before the jam", ARGUMENT, () -> jammed().turnsToBell(false, most));
            }
        });
        promise(45, "Throws `IllegalStateException` if the machine is jammed", () -> {
            refused(Edge::jammed, STATE, "turnsToBell(true, 1)", x -> x.turnsToBell(true, 1));
            refused(Edge::jammed, STATE, "turnsToBell(false, 999)", x -> x.turnsToBell(false, 999));
        });
    }

    private static void turnsFor() {
        promise(46, "Returns how many turns multiplying by a number takes.", () -> {
            told("long", 17, new CrankCalculator(), x -> x.turnsFor(98, false));
            told("short", 3, new CrankCalculator(), x -> x.turnsFor(98, true));
            told("though the position does not exist", 2, made("pins 8;"), x -> x.turnsFor(999999, true));
            told("though it is jammed", 17, jammed(), x -> x.turnsFor(98, false));
        });
        promise(46, "`number`: 0 to 999999", () -> {
            told("0", 0, new CrankCalculator(), x -> x.turnsFor(0, false));
            told("1", 1, new CrankCalculator(), x -> x.turnsFor(1, false));
            told("999999", 54, new CrankCalculator(), x -> x.turnsFor(999999, false));
            told("0, short", 0, new CrankCalculator(), x -> x.turnsFor(0, true));
            told("999999, short", 2, new CrankCalculator(), x -> x.turnsFor(999999, true));
        });
        promise(46, "`isShort`: whether the short way is taken", () -> {
            told("5", 5, new CrankCalculator(), x -> x.turnsFor(5, true));
            told("6", 4 + 1, new CrankCalculator(), x -> x.turnsFor(6, true));
            told("45", 9, new CrankCalculator(), x -> x.turnsFor(45, true));
            told("46", 4 + 5, new CrankCalculator(), x -> x.turnsFor(46, true));
            told("56", 4 + 4 + 1, new CrankCalculator(), x -> x.turnsFor(56, true));
            told("96", 4 + 1, new CrankCalculator(), x -> x.turnsFor(96, true));
        });
        promise(46, "Returns the number of turns.", () -> {
            told("the most, short", 30, new CrankCalculator(), x -> x.turnsFor(555555, true));
            told("of all digits", 21, new CrankCalculator(), x -> x.turnsFor(123456, false));
            told("of all digits, short", 4 + 4 + 5 + 3 + 2 + 1, new CrankCalculator(), x -> x.turnsFor(123456, true));
        });
        promise(46, "Throws `IllegalArgumentException` if the number is out of range", () -> {
            for (int number : new int[] {-1, 1000000, LEAST, GREATEST}) {
                refused(CrankCalculator::new, ARGUMENT, "turnsFor(" + number + ", false)", x -> x.turnsFor(number, false));
                refused(CrankCalculator::new, ARGUMENT, "turnsFor(" + number + ", true)", x -> x.turnsFor(number, true));
                dueThrow("jammed", ARGUMENT, () -> jammed().turnsFor(number, true));
            }
        });
    }

    private static void soundness() {
        promise(47, "Returns the share of all carries that moved a wheel.", () -> {
            dueFloat("half of them", 0.5f, at("pins 2; wheels 4; slip 1;", "set 55; turn 2;").soundness());
            dueFloat("all of them", 1f, at("", "set 55; turn 2;").soundness());
            dueFloat("none of them", 0f, at("slip 0;", "set 5; turn 2;").soundness());
        });
        promise(47, "Returns carries by levers that moved a wheel divided by these and the lost ones, both converted to float;"
            + " 1 if there were none.", () -> {
            dueFloat("no turns", 1f, new CrankCalculator().soundness());
            dueFloat("no carries", 1f, at("", "set 1; turn 9;").soundness());
            dueFloat("the bell alone", 1f, at("pins 2; wheels 2; slip 1;", "set 50; turn 2;").soundness());
            dueFloat("1 of 3", 1f / 3f, at("pins 2; wheels 4; slip 1;", "set 5; turn 2; clear; set 50; turn 4;").soundness());
            dueFloat("2 of 3", 2f / 3f, at("pins 2; wheels 4; slip 1;", "set 5; turn 4; clear; set 50; turn 2;").soundness());
            dueFloat("5 of 7", 5f / 7f, at("pins 2; wheels 4; slip 1;", "set 5; turn 10; clear; set 50; turn 4;").soundness());
            CrankCalculator x = at("pins 2; wheels 4; stuck 2;", "set 55; turn 2;");
            dueFloat("in the jam", 1f, x.soundness());
            due("one carry", 1, () -> x.count(3));
            x.crankBack();
            dueFloat("cranked back", 1f, x.soundness());
            due("no carry", 0, () -> x.count(3));
        });
    }
}
