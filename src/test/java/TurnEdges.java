/** Section 2: a turn. */
final class TurnEdges extends Edge {
    private TurnEdges() {
    }

    static void all() {
        directions();
        levers();
        threeParts();
        pinPart();
        releases();
        bell();
        lostCarries();
        carries();
        counterPart();
        counterPasses();
        counterOfDividing();
        jams();
        stays();
        crankedBack();
        freed();
        nothingElse();
    }

    private static void directions() {
        section(2, "A turn is forward or back.", () -> {
            due("forward", 1, () -> at("stuck 0;", "set 1; turn 1;").jam(2));
            due("back", -1, () -> at("stuck 0;", "set 1; turn -1;").jam(2));
            dueThrow("neither", ARGUMENT, () -> new CrankCalculator().turn(0));
        });
        section(2, "Forward, a wheel moves upwards, back, it moves downwards;", () -> {
            due("forward", 6, () -> at("", "set 2; turn 3;").digit(0));
            due("back", 2, () -> at("", "set 2; turn 3; turn -2;").digit(0));
            due("back, a higher wheel", 40, () -> at("", "set 20; turn 3; turn -1;").result());
        });
        section(2, "from 9 upwards it comes to 0, and from 0 downwards to 9.", () -> {
            due("to 9", 9, () -> at("", "set 1; turn 9;").digit(0));
            due("from 9 upwards", 0, () -> at("", "set 1; turn 9; turn 1;").digit(0));
            due("to 0", 0, () -> at("", "set 1; turn 1; turn -1;").digit(0));
            due("from 0 downwards", 9, () -> at("", "set 1; turn -1;").digit(0));
            due("over 9, nine steps", 8, () -> at("", "set 9; turn 2;").digit(0));
            due("over 0, nine steps", 1, () -> at("", "set 9; turn -1;").digit(0));
            due("ten steps", 0, () -> at("pins 2; wheels 2;", "set 9; turn 1; set 91; turn 1;").digit(1));
        });
    }

    /** Whether the lever of wheel 0 is set behind the last turn, as it jams at wheel 1 then. */
    private static void lever(long want, String script) {
        CrankCalculator x = at("pins 2; wheels 4; stuck 1;", script);
        due("\"" + script + "\" jams", want, () -> x.state(6));
        due("\"" + script + "\" sets the lever", want, () -> x.isLeverSet(0) ? 1 : 0);
    }

    private static void levers() {
        section(2, "Whenever a result wheel passes between 9 and 0 in either direction, its lever is set.", () -> {
            lever(0, "set 1; turn 9;");
            lever(1, "set 9; turn 1; set 1; turn 1;");
            lever(0, "set 5; turn 1; set 4; turn 1;");
            lever(1, "set 5; turn 1; set 5; turn 1;");
            lever(1, "set 5; turn 1; set 9; turn 1;");
            lever(0, "set 9; turn 1; turn -1;");
            lever(0, "set 1; turn 1; turn -1;");
            lever(1, "set 1; turn -1;");
            lever(0, "set 5; turn 1; set 5; turn -1;");
            lever(1, "set 5; turn 1; set 6; turn -1;");
            lever(1, "set 9; turn -1;");
        });
    }

    private static void threeParts() {
        section(2, "A turn has three parts, one after the other:", () -> {
            CrankCalculator x = at("pins 3; wheels 4; stuck 1;", "set 5; turn 1; set 115; turn 1;");
            due("in the first part", 0, () -> x.jam(1));
            isTrue("no lever is released yet", () -> x.isLeverSet(0));
            due("nor is the third pin done", 0, () -> x.digit(2));
            due("nor the counter moved again", 1, x::counter);
            CrankCalculator y = at("pins 3; wheels 4; stuck 3;", "set 905; turn 1; set 115; turn 1;");
            due("in the second part", 1, () -> y.jam(1));
            due("all pins are done, and the lever of wheel 0", 20, y::result);
            due("but the counter is not moved again", 1, y::counter);
            due("nor is the turn due", 905, y::dueResult);
            due("the third part", 1, y::free);
            due("counter", 2, y::counter);
        });
    }

    private static void pinPart() {
        section(2, "Pins: for each j from 0 to n - 1, the wheel c + j moves by as many steps as the digit of pin j.", () -> {
            CrankCalculator x = at("pins 3; wheels 7;", "set 907; shift 2; turn 1;");
            dueRow("steps", row(0, 0, 7, 0, 9, 0, 0), x::steps);
            dueRow("digit", row(0, 0, 7, 0, 9, 0, 0), x::digit);
            CrankCalculator y = at("pins 3; wheels 7;", "set 123; shift 4; turn 1; shift -4; turn 1;");
            dueRow("steps at both ends", row(3, 2, 1, 0, 3, 2, 1), y::steps);
        });
    }

    private static void releases() {
        section(2, "Levers: for each wheel w from c to m - 1, if its lever is set, it is released:", () -> {
            // 9999 + 1: the lever of wheel 3 should move the stuck wheel 4
            CrankCalculator x = at("pins 2; wheels 5; stuck 4;",
                "set 99; turn 1; shift 2; turn 1; shift -2; set 1; turn 1;");
            dueRow("isLeverSet", row(0, 0, 0, 1, 0), w -> x.isLeverSet(w) ? 1 : 0);
            due("three carries", 3, () -> x.count(3));
            x.free();
            dueRow("isLeverSet, finished", row(0, 0, 0, 0, 0), w -> x.isLeverSet(w) ? 1 : 0);
            due("four carries", 4, () -> x.count(3));
            // from c on
            CrankCalculator y = at("pins 2; wheels 5;", "shift 2; set 9; turn 2;");
            due("the carry of wheel c", 1800, y::result);
            CrankCalculator z = at("pins 2; wheels 5;", "shift 3; set 90; turn 2;");
            due("the bell of wheel m - 1", 1, () -> z.count(2));
        });
    }

    private static void rings(String setup, String script, int rings, int lost, int carries) {
        CrankCalculator x = at(setup, script);
        due("rings in \"" + setup + script + "\"", rings, () -> x.count(2));
        due("lost in \"" + setup + script + "\"", lost, () -> x.count(4));
        due("carries in \"" + setup + script + "\"", carries, () -> x.count(3));
    }

    private static void bell() {
        section(2, "if w is m - 1, the bell rings (whether the lever slips or not, and no carry is lost);", () -> {
            rings("pins 2; wheels 2;", "set 50; turn 1;", 0, 0, 0);
            rings("pins 2; wheels 2;", "set 50; turn 2;", 1, 0, 0);
            rings("pins 2; wheels 2;", "set 50; turn -1;", 1, 0, 0);
            rings("pins 2; wheels 2; slip 1;", "set 50; turn 2;", 1, 0, 0);
            rings("pins 2; wheels 2; reach 0;", "set 50; turn 2;", 1, 0, 0);
            rings("pins 2; wheels 2; slip 1; reach 0;", "set 50; turn 2;", 1, 0, 0);
            // not at m - 2
            rings("pins 2; wheels 3;", "set 50; turn 2;", 0, 0, 1);
            rings("pins 2; wheels 3; slip 1;", "set 50; turn 2;", 0, 1, 0);
            // by a carry
            rings("pins 2; wheels 2;", "set 99; turn 1; set 1; turn 1;", 1, 0, 1);
            rings("pins 8; wheels 16;", "set 1; turn -1;", 1, 0, 15);
        });
    }

    /** 1 is subtracted from 0, which sets one lever behind the other. */
    private static void reached(String setup, String shift, long result, int carries, int lost) {
        CrankCalculator x = at("pins 2; wheels 8;" + setup, shift + "set 1; turn -1;");
        due("result with " + setup + shift, result, x::result);
        due("carries with " + setup + shift, carries, () -> x.count(3));
        due("lost with " + setup + shift, lost, () -> x.count(4));
    }

    private static void lostCarries() {
        section(2, "if the lever slips, or w + 1 is greater than c + n - 1 plus the reach, the carry is lost;", () -> {
            reached("reach 0;", "", 99, 1, 1);
            reached("reach 1;", "", 999, 2, 1);
            reached("reach 5;", "", 9999999, 6, 1);
            reached("reach 6;", "", 99999999, 7, 0);
            reached("reach 7;", "", 99999999, 7, 0);
            reached("reach 16;", "", 99999999, 7, 0);
            reached("reach 0;", "shift 1;", 990, 1, 1);
            reached("reach 2;", "shift 3;", 9999000, 3, 1);
            reached("reach 2;", "shift 4;", 99990000, 3, 0);
            reached("slip 0;", "", 9, 0, 1);
            reached("slip 1;", "", 99, 1, 1);
            reached("slip 6;", "", 9999999, 6, 1);
            reached("slip 1; reach 0;", "", 99, 1, 1);
            reached("slip 2; reach 1;", "", 999, 2, 1);
            reached("slip 0;", "shift 1;", 99999990, 6, 0);
            due("forward", 10, () -> at("pins 2; wheels 3; slip 1;", "set 55; turn 2;").result());
        });
    }

    private static void carries() {
        section(2, "otherwise wheel w + 1 moves by one step (and can set its own lever by this).", () -> {
            CrankCalculator x = at("", "set 88; turn 1; set 2; turn 1;");
            due("8 to 9 sets no lever", 90, x::result);
            due("8 to 9 sets no lever", 1, () -> x.count(3));
            CrankCalculator y = at("", "set 98; turn 1; set 2; turn 1;");
            due("9 to 0 sets one", 100, y::result);
            due("9 to 0 sets one", 2, () -> y.count(3));
            CrankCalculator z = at("", "set 101; turn 1; set 2; turn -1;");
            due("0 to 9 sets one", 99, z::result);
            due("0 to 9 sets one", 2, () -> z.count(3));
            CrankCalculator u = at("", "set 111; turn 1; set 2; turn -1;");
            due("1 to 0 sets none", 109, u::result);
            due("1 to 0 sets none", 1, () -> u.count(3));
            // set by the pin already: one carry only
            CrankCalculator v = at("", "set 95; turn 1; set 95; turn 1;");
            due("set once", 190, v::result);
            due("set once", 2, () -> v.count(3));
        });
    }

    private static void counterPart() {
        section(2, "Counter: if c is less than k, the counter wheel c moves by one step,", () -> {
            String machine = "pins 2; wheels 8; counter 3;";
            due("c is 0", 1, () -> at(machine, "turn 1;").counter());
            due("c is k - 1", 100, () -> at(machine, "shift 2; turn 1;").counter());
            due("c is k", 0, () -> at(machine, "shift 3; turn 1;").counter());
            due("c is k, back", 0, () -> at(machine, "shift 3; turn -1;").counter());
            due("c is more than k", 0, () -> at(machine, "shift 6; turn 1;").counter());
            due("turns that move no counter wheel are finished too", 1,
                () -> at(machine, "shift 3; turn 1;").count(0));
        });
        section(2, "upwards in a turn forward, downwards in a turn back,", () -> {
            due("forward", 3, () -> at("", "turn 3;").counter());
            due("back", 1, () -> at("", "turn 3; turn -2;").counter());
            due("forward at c", 30, () -> at("", "shift 1; turn 3;").counter());
            due("back at c", 10, () -> at("", "shift 1; turn 3; turn -2;").counter());
        });
    }

    private static void counterPasses() {
        section(2, "and whenever a counter wheel passes between 9 and 0, the next higher one, if there is one,"
            + " moves by one step in the same direction.", () -> {
            due("to 9", 9, () -> at("", "turn 9;").counter());
            due("9 to 0", 10, () -> at("", "turn 10;").counter());
            due("back from 0 to 9", 9, () -> at("", "turn 10; turn -1;").counter());
            due("to 99", 99, () -> at("", "turn 99;").counter());
            due("over two wheels", 100, () -> at("", "turn 99; turn 1;").counter());
            due("back over two wheels", 99, () -> at("", "turn 99; turn 1; turn -1;").counter());
            due("below 0", 9999, () -> at("", "turn -1;").counter());
            due("beyond all", 0, () -> at("", "turn -1; turn 1;").counter());
            due("below 0 at c", 9990, () -> at("", "shift 1; turn -1;").counter());
            due("the highest wheel to 9", 9000, () -> at("", "shift 3; turn 9;").counter());
            due("no wheel above the highest", 0, () -> at("", "shift 3; turn 10;").counter());
            due("no wheel above the highest, back", 9000, () -> at("", "shift 3; turn -1;").counter());
            due("eight wheels", 99999999, () -> at("counter 8;", "turn -1;").counter());
            due("the levers of the result have no part in it", 20,
                () -> at("slip 0; slip 1; reach 0;", "shift 1; set 9; turn 2;").counter());
        });
    }

    private static void counterOfDividing() {
        section(2, "While the machine divides, the counter wheels move the other way,"
            + " also in a turn that jams then and is finished later.", () -> {
            due("forth", 9, () -> at("pins 2; wheels 2;", "set 90; turn 1; clear counter; set 10; divide;").counter());
            due("forth and back", 0, () -> at("pins 2; wheels 2;", "set 1; divide;").counter());
            CrankCalculator x = at("pins 2; wheels 2; stuck 0;", "set 11; divide;");
            due("jammed", 0, x::counter);
            due("finished later", 1, x::free);
            due("the other way", 1, x::counter);
            x.turn(-1);
            due("a turn that does not divide", 0, x::counter);
            CrankCalculator y = at("pins 2; wheels 2; stuck 0;", "set 11; divide;");
            y.crankBack();
            y.turn(-1);
            due("jammed again, without dividing", 1, y::free);
            due("downwards", 9999, y::counter);
            CrankCalculator z = at("pins 2; wheels 2; stuck 0; stuck 1;", "set 11; divide;");
            due("jammed twice", 0, z::free);
            due("jammed twice", 1, z::free);
            due("the other way, freed twice", 1, z::counter);
            CrankCalculator u = at("pins 2; wheels 2; stuck 0;", "set 11; divide;");
            u.save(0);
            u.crankBack();
            u.restore(0);
            u.free();
            due("the other way, restored", 1, u::counter);
        });
    }

    private static void jams() {
        section(2, "If a result wheel that must move by at least one step is stuck,"
            + " the turn jams there, before this wheel moves;", () -> {
            due("no step by the pins", 9, () -> at("stuck 1;", "set 101;").turn(9));
            due("one step by the pins", 0, () -> at("stuck 1;", "set 10;").turn(1));
            due("a step by a carry", 9, () -> at("stuck 1;", "set 1;").turn(10));
            due("a carry that is lost", 99, () -> at("slip 0; stuck 1;", "set 1;").turn(99));
            due("a carry beyond the reach", 1, () -> at("pins 2; reach 0; stuck 2;", "set 1;").turn(-1));
            due("the bell", 1, () -> at("pins 2; wheels 3; stuck 0; stuck 1;", "shift 1; set 90;").turn(-1));
            due("below c", 9, () -> at("pins 2; wheels 3; stuck 0;", "shift 1; set 11;").turn(9));
            CrankCalculator x = at("stuck 1;", "set 10; turn 1;");
            due("jammed there", 1, () -> x.jam(0));
            due("it has not moved", 0, () -> x.digit(1));
            due("nor made a step", 0, () -> x.steps(1));
            CrankCalculator y = at("stuck 1;", "set 1; turn -1;");
            due("jammed there by a carry", 1, () -> y.jam(0));
            due("it has not moved", 0, () -> y.digit(1));
            due("back too", 9, () -> y.digit(0));
        });
    }

    private static void stays() {
        section(2, "what was done before stays, and a lever that should have moved the wheel stays set.", () -> {
            CrankCalculator x = at("pins 3; wheels 6; stuck 3;", "set 555; turn 1; set 566; turn 1;");
            // 5 + 6, 5 + 6 + 1, 5 + 5 + 1
            due("what was done", 121, x::result);
            due("carries that were done", 2, () -> x.count(3));
            dueRow("isLeverSet", row(0, 0, 1, 0, 0, 0), w -> x.isLeverSet(w) ? 1 : 0);
            CrankCalculator y = at("pins 3; wheels 6; stuck 2;", "set 55; turn 1; set 155; turn 1;");
            due("the pins that were done", 0, y::result);
            dueRow("levers that could not be released yet", row(1, 1, 0, 0, 0, 0), w -> y.isLeverSet(w) ? 1 : 0);
        });
        section(2, "Levers are set only during a turn.", () -> {
            CrankCalculator x = at("pins 3; wheels 6;", "set 555; turn 2;");
            dueRow("isLeverSet, finished", row(0, 0, 0, 0, 0, 0), w -> x.isLeverSet(w) ? 1 : 0);
            CrankCalculator y = at("pins 3; wheels 6; stuck 3;", "set 555; turn 2;");
            isTrue("while it is jammed", () -> y.isLeverSet(2));
            y.crankBack();
            dueRow("isLeverSet, cranked back", row(0, 0, 0, 0, 0, 0), w -> y.isLeverSet(w) ? 1 : 0);
            CrankCalculator z = at("pins 2; wheels 2; slip 0; slip 1;", "set 99; turn 2;");
            dueRow("isLeverSet, slipped", row(0, 0), w -> z.isLeverSet(w) ? 1 : 0);
        });
    }

    private static void crankedBack() {
        section(2, "A jammed turn can be cranked back: everything is as before this turn then,"
            + " also the counts of bells and carries;", () -> {
            String setup = "pins 3; wheels 6; slip 1; stuck 3;";
            // 5 + 5 carries, 5 + 5 + 1 loses its carry, 5 + 5 should move the stuck wheel 3
            CrankCalculator x = at(setup, "shift 3; set 900; turn 2; shift -3; set 555; turn 1;");
            dueRow("count before", row(3, 0, 1, 0, 0, 0), x::count);
            due("jams", 0, () -> x.turn(5));
            dueRow("count in the jam", row(3, 0, 1, 1, 1, 1), x::count);
            due("three wheels have moved", 3, x::crankBack);
            dueRow("count", row(3, 0, 1, 0, 0), x::count);
            due("result", 800555, x::result);
            due("due result", 800555, x::dueResult);
            due("counter", 1 + 2000, x::counter);
            due("position", 0, () -> x.state(4));
            due("not jammed", 0, () -> x.state(6));
            dueRow("pin", row(5, 5, 5), x::pin);
            dueThrow("no more turns are kept", ELEMENT, () -> x.logged(3, 0));
            // the counts of the turns before stay
            CrankCalculator z = at("pins 3; wheels 6; slip 2;", "set 555; turn 2;");
            z.damage(1, 2);
            due("jams", 0, () -> z.turn(1));
            due("one wheel has moved", 1, z::crankBack);
            dueRow("count behind other carries", row(2, 0, 0, 2, 1), z::count);
            CrankCalculator y = at("stuck 2;", "set 50; turn 1; set 155; turn -1;");
            due("jammed", 5, () -> y.digit(0));
            due("two wheels have moved", 2, y::crankBack);
            due("result as before the turn back", 50, y::result);
        });
        section(2, "but wheels that were freed stay free, jams that were counted stay counted,"
            + " and the steps of wheels are counted forth and back.", () -> {
            CrankCalculator x = at("pins 3; wheels 6; stuck 0; stuck 2;", "set 123; turn 1;");
            due("freed", 0, x::free);
            x.crankBack();
            due("stays free", 0, () -> x.fault(0));
            due("still stuck", 2, () -> x.fault(2));
            due("jams", 2, () -> x.count(5));
            dueRow("steps", row(6, 4, 0, 0, 0, 0), x::steps);
            due("result", 0, x::result);
            // ten steps back and ten forth, by the pin and a carry
            CrankCalculator y = at("pins 2; wheels 3; stuck 2;", "set 9; turn 1; set 91; turn 1;");
            y.crankBack();
            dueRow("steps", row(9 + 2, 20, 0), y::steps);
        });
    }

    private static void freed() {
        section(2, "Or the wheel where it jams can be freed: it is not stuck any more, and the turn goes on;"
            + " it may jam again at another wheel.", () -> {
            CrankCalculator x = at("pins 3; wheels 6; stuck 1; stuck 3; slip 1;", "set 590; turn 1;");
            due("it jams at wheel 1", 1, () -> x.jam(0));
            due("it goes on", 1, x::free);
            due("not stuck any more, but it slips", 1, () -> x.fault(1));
            due("result", 590, x::result);
            due("the same turn again jams at wheel 3", 0, () -> x.turn(1));
            due("wheel 1 has moved, and lost its carry", 80, () -> x.result());
            due("it goes on", 1, x::free);
            due("result", 1080, x::result);
            CrankCalculator y = at("pins 3; wheels 6; stuck 0; stuck 1; stuck 3;", "set 555; turn 1;");
            due("jams again at wheel 1", 0, y::free);
            due("jams again at wheel 1", 1, () -> y.jam(0));
            due("goes on", 1, y::free);
            due("next turn", 0, () -> y.turn(1));
            due("jams in the levers at wheel 3", 3, () -> y.jam(0));
            due("goes on", 1, y::free);
            due("result", 1110, y::result);
            due("jams", 3, () -> y.count(5));
            // in the pins first, then by a carry of the wheel that was freed
            CrankCalculator z = at("pins 2; wheels 4;", "set 95; turn 1; set 15;");
            z.damage(1, 2);
            z.damage(2, 2);
            due("jams", 0, () -> z.turn(1));
            due("in the part of the pins", 0, () -> z.jam(1));
            due("jams again", 0, z::free);
            due("at the next wheel", 2, () -> z.jam(0));
            due("in the part of the levers", 1, () -> z.jam(1));
            due("goes on", 1, z::free);
            due("result", 110, z::result);
        });
    }

    private static void nothingElse() {
        section(2, "While the machine is jammed, it does nothing else"
            + " (but it can be set up anew, saved, restored and undone as always).", () -> {
            refused(Edge::jammed, STATE, "setPin(0, 2)", x -> x.setPin(0, 2));
            refused(Edge::jammed, STATE, "setPins(2)", x -> x.setPins(2));
            refused(Edge::jammed, STATE, "turn(1)", x -> x.turn(1));
            refused(Edge::jammed, STATE, "shift(1)", x -> x.shift(1));
            refused(Edge::jammed, STATE, "clear(0)", x -> x.clear(0));
            refused(Edge::jammed, STATE, "multiply(2, false)", x -> x.multiply(2, false));
            refused(Edge::jammed, STATE, "divide()", CrankCalculator::divide);
            refused(Edge::jammed, STATE, "transfer()", CrankCalculator::transfer);
            refused(Edge::jammed, STATE, "damage(1, 1)", x -> x.damage(1, 1));
            refused(Edge::jammed, STATE, "repair(0)", x -> x.repair(0));
            CrankCalculator y = jammed();
            put(y, "clear;");
            dueThrow("script()", STATE, y::script);
            due("saved", 0, () -> y.save(0));
            due("restored", 0, () -> y.restore(0));
            due("still jammed", 1, () -> y.state(6));
            due("undone", 1, y::undo);
            due("still jammed", 1, () -> y.state(6));
            due("undone", 0, y::undo);
            due("not jammed", 0, () -> y.state(6));
            due("restored", 0, () -> y.restore(0));
            due("jammed again", 1, () -> y.state(6));
            due("set up anew", 8, y::setup);
            due("not jammed", 0, () -> y.state(6));
        });
    }
}
