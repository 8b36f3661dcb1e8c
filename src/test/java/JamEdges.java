/** Promises 16 to 19: cranking back, freeing, damage and repair. */
final class JamEdges extends Edge {
    private JamEdges() {
    }

    static void all() {
        crankBack();
        free();
        damage();
        damageRefused();
        repair();
    }

    private static CrankCalculator sound() {
        return at("pins 3; wheels 6; slip 2; stuck 4;", "set 357; turn 1; shift 1;");
    }

    private static void crankBack() {
        promise(16, "Cranks a jammed turn back.", () -> {
            CrankCalculator x = at("pins 3; wheels 6; stuck 2;", "set 99; turn 1; set 199; turn -1;");
            due("what was done of it", 0, x::result);
            x.crankBack();
            due("result", 99, x::result);
            due("not jammed", 0, () -> x.state(6));
            due("turns", 1, () -> x.count(0));
            due("turns back", 0, () -> x.count(1));
            due("one change", 2, x::changeCount);
            due("the crank turns again", 0, () -> x.turn(1));
            due("forward now", 1, () -> x.jam(2));
        });
        promise(16, "Returns the number of result wheels that had moved in this turn.", () -> {
            due("none", 0, () -> jammed().crankBack());
            due("one by its pin", 1, () -> at("stuck 1;", "set 12; turn 1;").crankBack());
            due("not those with a pin of 0", 1, () -> at("stuck 3;", "set 1100; turn 1;").crankBack());
            due("not those of the turns before", 0, () -> at("stuck 2;", "set 99; turn 1; set 100; turn 1;").crankBack());
            due("one by a carry", 3, () -> at("stuck 3;", "set 999; turn 1; set 1; turn 1;").crankBack());
            due("one of ten steps", 2, () -> at("pins 2; stuck 2;", "set 9; turn 1; set 91; turn 1;").crankBack());
            due("back too", 2, () -> at("stuck 2;", "set 1; turn -1;").crankBack());
            due("all but the highest", 15, () -> at("pins 2; wheels 16; stuck 15;", "set 1; turn -1;").crankBack());
            CrankCalculator x = at("stuck 0; stuck 1;", "set 11; turn 1;");
            x.free();
            due("those of the turn that went on", 1, x::crankBack);
        });
        promise(16, "Throws `IllegalStateException` if the machine is not jammed", () -> {
            refused(CrankCalculator::new, STATE, "crankBack()", CrankCalculator::crankBack);
            refused(JamEdges::sound, STATE, "crankBack()", CrankCalculator::crankBack);
            CrankCalculator x = jammed();
            x.crankBack();
            dueThrow("cranked back already", STATE, x::crankBack);
            CrankCalculator y = jammed();
            y.free();
            dueThrow("finished", STATE, y::crankBack);
        });
    }

    private static void free() {
        promise(17, "Frees the wheel where the turn jams, and goes on with the turn.", () -> {
            CrankCalculator x = at("pins 3; wheels 6; stuck 1; stuck 4; slip 1;", "set 357; turn 2;");
            x.free();
            due("result", 357, x::result);
            due("counter", 1, x::counter);
            due("this turn alone", 1, () -> x.count(0));
            due("due result", 357, x::dueResult);
            due("freed, but slipping", 1, () -> x.fault(1));
            due("the other one is still stuck", 2, () -> x.fault(4));
            due("not jammed", 0, () -> x.state(6));
            due("one change", 2, x::changeCount);
        });
        promise(17, "Returns 1 if the turn is finished, 0 if it jams again.", () -> {
            due("finished", 1, () -> jammed().free());
            due("finished back", 1, () -> at("stuck 7;", "set 1; turn -1;").free());
            due("jams again by a pin", 0, () -> at("stuck 0; stuck 1;", "set 11; turn 1;").free());
            due("jams again by a carry", 0, () -> at("stuck 1; stuck 2;", "set 1; turn -1;").free());
            CrankCalculator x = at("pins 2; wheels 4; stuck 0; stuck 1; stuck 2; stuck 3;", "set 1; turn -1;");
            due("wheel 0", 0, x::free);
            due("wheel 1", 0, x::free);
            due("wheel 2", 0, x::free);
            due("wheel 3", 1, x::free);
            due("jams", 4, () -> x.count(5));
            due("result", 9999, x::result);
        });
        promise(17, "Throws `IllegalStateException` if the machine is not jammed", () -> {
            refused(CrankCalculator::new, STATE, "free()", CrankCalculator::free);
            refused(JamEdges::sound, STATE, "free()", CrankCalculator::free);
            CrankCalculator x = jammed();
            x.crankBack();
            dueThrow("cranked back", STATE, x::free);
            CrankCalculator y = jammed();
            y.free();
            dueThrow("finished already", STATE, y::free);
        });
    }

    private static void damage() {
        promise(18, "Makes a fault.", () -> {
            CrankCalculator x = sound();
            x.damage(0, 1);
            dueRow("fault", row(1, 0, 1, 0, 2, 0), x::fault);
            x.damage(0, 2);
            dueRow("fault", row(3, 0, 1, 0, 2, 0), x::fault);
            due("two changes", 3, x::changeCount);
            due("result", 357, x::result);
        });
        promise(18, "`wheel`: number of a result wheel", () -> {
            due("0", 3, () -> sound().damage(0, 1));
            due("m - 1", 3, () -> sound().damage(5, 1));
            due("the sixteenth", 1, () -> made("wheels 16;").damage(15, 2));
        });
        promise(18, "`fault`: 1 its lever slips, 2 the wheel is stuck", () -> {
            CrankCalculator x = at("", "set 5; turn 1;");
            x.damage(0, 1);
            x.turn(1);
            due("it slips", 0, x::result);
            due("a lost carry", 1, () -> x.count(4));
            x.damage(0, 2);
            due("it is stuck", 0, () -> x.turn(1));
            due("jammed", 0, () -> x.jam(0));
        });
        promise(18, "Returns the number of faults then.", () -> {
            CrankCalculator x = made("pins 2; wheels 2;");
            due("the first", 1, () -> x.damage(0, 1));
            due("the second of a wheel", 2, () -> x.damage(0, 2));
            due("of all wheels", 3, () -> x.damage(1, 2));
            due("as many as can be", 4, () -> x.damage(1, 1));
            due("as state(5)", 4, () -> x.state(5));
            CrankCalculator y = made("wheels 16;");
            for (int i = 0; i < 32; i++) {
                int wheel = i / 2;
                int fault = 1 + i % 2;
                due("fault " + fault + " of wheel " + wheel, i + 1, () -> y.damage(wheel, fault));
            }
        });
    }

    private static void damageRefused() {
        promise(18, "Throws `IndexOutOfBoundsException` if there is no such wheel", () -> {
            for (int wheel : new int[] {-1, 6, 15, 16, LEAST, GREATEST}) {
                refused(JamEdges::sound, INDEX, "damage(" + wheel + ", 1)", x -> x.damage(wheel, 1));
                dueThrow("before the fault", INDEX, () -> sound().damage(wheel, 3));
            }
            dueThrow("before the jam", INDEX, () -> jammed().damage(8, 1));
            dueThrow("before all", INDEX, () -> jammed().damage(-1, 0));
        });
        promise(18, "Throws `IllegalArgumentException` if the fault is neither 1 nor 2", () -> {
            for (int fault : new int[] {-1, 0, 3, LEAST, GREATEST}) {
                refused(JamEdges::sound, ARGUMENT, "damage(5, " + fault + ")", x -> x.damage(5, fault));
                dueThrow("before the jam", ARGUMENT, () -> jammed().damage(0, fault));
            }
            dueThrow("before what it has already", ARGUMENT, () -> made("slip 1; stuck 1;").damage(1, 3));
        });
        promise(18, "Throws `IllegalStateException` if the machine is jammed, or the wheel has this fault already", () -> {
            refused(Edge::jammed, STATE, "damage(0, 1)", x -> x.damage(0, 1));
            refused(Edge::jammed, STATE, "damage(0, 2)", x -> x.damage(0, 2));
            refused(Edge::jammed, STATE, "damage(7, 1)", x -> x.damage(7, 1));
            refused(JamEdges::sound, STATE, "damage(2, 1)", x -> x.damage(2, 1));
            refused(JamEdges::sound, STATE, "damage(4, 2)", x -> x.damage(4, 2));
            due("the other fault", 3, () -> sound().damage(2, 2));
            due("the other fault", 3, () -> sound().damage(4, 1));
            refused(() -> made("slip 1; stuck 1;"), STATE, "damage(1, 1)", x -> x.damage(1, 1));
            refused(() -> made("slip 1; stuck 1;"), STATE, "damage(1, 2)", x -> x.damage(1, 2));
            CrankCalculator x = jammed();
            x.free();
            due("freed, it has it no more", 1, () -> x.damage(0, 2));
            CrankCalculator y = sound();
            y.repair(2);
            due("repaired, it has it no more", 2, () -> y.damage(2, 1));
        });
    }

    private static void repair() {
        promise(19, "Repairs all faults of a wheel.", () -> {
            CrankCalculator x = made("slip 0; stuck 0; slip 1; stuck 2;");
            x.repair(0);
            dueRow("fault", row(0, 1, 2, 0, 0, 0, 0, 0), x::fault);
            x.setPins(9);
            due("it moves again", 2, () -> x.turn(2));
            due("and its lever does not slip", 18, x::result);
            due("three changes", 3, x::changeCount);
        });
        promise(19, "`wheel`: number of a result wheel", () -> {
            due("0", 1, () -> made("slip 0;").repair(0));
            due("m - 1", 1, () -> made("stuck 7;").repair(7));
            due("the sixteenth", 2, () -> made("wheels 16; slip 15; stuck 15;").repair(15));
        });
        promise(19, "Returns the number of faults that it had.", () -> {
            CrankCalculator x = made("slip 0; stuck 0; slip 1; stuck 2;");
            due("both", 2, () -> x.repair(0));
            due("slipping", 1, () -> x.repair(1));
            due("stuck", 1, () -> x.repair(2));
            due("none", 0, () -> x.repair(3));
            due("repaired already", 0, () -> x.repair(0));
            due("changes", 5, x::changeCount);
        });
        promise(19, "Throws `IndexOutOfBoundsException` if there is no such wheel", () -> {
            for (int wheel : new int[] {-1, 6, 15, 16, LEAST, GREATEST}) {
                refused(JamEdges::sound, INDEX, "repair(" + wheel + ")", x -> x.repair(wheel));
            }
            dueThrow("before the jam", INDEX, () -> jammed().repair(8));
        });
        promise(19, "Throws `IllegalStateException` if the machine is jammed", () -> {
            refused(Edge::jammed, STATE, "repair(0)", x -> x.repair(0));
            refused(Edge::jammed, STATE, "repair(7)", x -> x.repair(7));
        });
    }
}
