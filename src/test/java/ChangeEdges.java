import java.util.function.Consumer;
import java.util.function.Supplier;

/** Section 6 and promises 48 to 51: changes, saved states, undoing. */
final class ChangeEdges extends Edge {
    private static final String MACHINE = "pins 3; wheels 7; counter 3; slip 3; stuck 5;";

    private ChangeEdges() {
    }

    static void all() {
        changes();
        noChanges();
        lastTwelve();
        restoresEverything();
        changesNothing();
        listedFirst();
        save();
        saveRefused();
        restore();
        restoreRefused();
        undo();
        changeCount();
    }

    private static CrankCalculator used() {
        return at(MACHINE, "set 458; turn 1; shift 2; turn 1;");
    }

    private static CrankCalculator jammedLater() {
        return at("pins 3; wheels 7; stuck 2; stuck 3;", "set 555; turn 1;");
    }

    private static void changed(String call, Supplier<CrankCalculator> maker, Consumer<CrankCalculator> change) {
        CrankCalculator x = maker.get();
        x.save(0);
        String before = portrait(x);
        int changes = x.changeCount();
        change.accept(x);
        due(call + " is a change", changes + 1, x::changeCount);
        String after = portrait(x);
        due(call + " is undone", changes, x::undo);
        dueText(call + " is undone", before, portrait(x));
        change.accept(x);
        dueText(call + " once more", after, portrait(x));
    }

    private static void changes() {
        section(6, "The methods setPin, setPins, turn, shift, clear, multiply, divide, transfer, crankBack, free, damage,"
            + " repair, script and restore are changes when they succeed (script if its text has no error).", () -> {
            changed("setPin", ChangeEdges::used, x -> x.setPin(1, 3));
            changed("setPins", ChangeEdges::used, x -> x.setPins(777));
            changed("turn", ChangeEdges::used, x -> x.turn(2));
            changed("turn that jams", ChangeEdges::used, x -> x.turn(80));
            changed("shift", ChangeEdges::used, x -> x.shift(-2));
            changed("clear", ChangeEdges::used, x -> x.clear(0));
            changed("multiply", () -> at("pins 2; wheels 5; slip 1;", "set 37;"), x -> x.multiply(198, true));
            changed("divide", () -> at("pins 2; wheels 3;", "set 37; turn 1;"), CrankCalculator::divide);
            changed("transfer", ChangeEdges::used, CrankCalculator::transfer);
            changed("crankBack", ChangeEdges::jammedLater, CrankCalculator::crankBack);
            changed("free that jams again", ChangeEdges::jammedLater, CrankCalculator::free);
            changed("free that finishes", Edge::jammed, CrankCalculator::free);
            changed("damage", ChangeEdges::used, x -> x.damage(0, 2));
            changed("repair", ChangeEdges::used, x -> x.repair(5));
            changed("script", ChangeEdges::used, x -> script(x, "shift -16; set 5; turn 5; clear pins; shift 2; divide;"));
            changed("script that jams", ChangeEdges::used, x -> script(x, "turn 80; clear;"));
            changed("script without a command", ChangeEdges::used, CrankCalculator::script);
            changed("restore", ChangeEdges::used, x -> x.restore(0));
            // what alters nothing is a change all the same
            changed("setPins", ChangeEdges::used, x -> x.setPins(458));
            changed("shift by 0", ChangeEdges::used, x -> x.shift(0));
            changed("clear of nothing", CrankCalculator::new, x -> x.clear(0));
            changed("repair of nothing", ChangeEdges::used, x -> x.repair(0));
            changed("multiply by 0", CrankCalculator::new, x -> x.multiply(0, false));
        });
    }

    private static void noChanges() {
        promise(51, "Returns the number of changes that can be undone.", () -> {
            CrankCalculator x = used();
            due("the script", 1, x::changeCount);
            due("a script with an error", NONE, () -> script(x, "turn 1; turn"));
            due("a setup with an error", NONE, () -> setup(x, "turn"));
            x.append(0, 0, 0, 0, 0);
            x.truncate(0);
            x.save(0);
            x.show();
            x.textByte(0);
            x.resultAfter(5);
            x.movedBy(true);
            x.ripple(false);
            x.turnsToBell(true, 9);
            x.turnsFor(5, true);
            x.state(0);
            x.result();
            due("none of these is a change", 1, x::changeCount);
            x.setPins(1);
            due("one more", 2, x::changeCount);
            x.undo();
            due("one less", 1, x::changeCount);
            x.setup();
            due("none behind a setup", 0, x::changeCount);
        });
    }

    private static CrankCalculator changedTimes(int changes) {
        CrankCalculator x = new CrankCalculator();
        for (int i = 1; i <= changes; i++) {
            x.setPins(i);
        }
        return x;
    }

    private static void lastTwelve() {
        section(6, "The last 12 changes can be undone; older ones are forgotten.", () -> {
            for (int changes : new int[] {1, 11, 12, 13, 14, 24, 25, 40}) {
                CrankCalculator x = changedTimes(changes);
                int kept = Math.min(changes, 12);
                due("changes of " + changes, kept, x::changeCount);
                for (int left = kept - 1; left >= 0; left--) {
                    int want = left;
                    due("undo of " + changes, want, x::undo);
                    due("the number of the pins", changes - kept + left, () -> x.pin(0) + 10 * x.pin(1));
                }
                dueThrow("one more of " + changes, STATE, x::undo);
                due("the number of the pins stays", changes - kept, () -> x.pin(0) + 10 * x.pin(1));
            }
            // undoing makes room again
            CrankCalculator y = changedTimes(15);
            y.undo();
            y.undo();
            y.setPins(77);
            due("10 and 1", 11, y::changeCount);
            y.setPins(78);
            y.setPins(79);
            due("12 again", 12, y::changeCount);
            for (int left = 11; left >= 0; left--) {
                int want = left;
                due("undo", want, y::undo);
            }
            due("the oldest that is kept", 4, () -> y.pin(0) + 10 * y.pin(1));
            dueThrow("one more", STATE, y::undo);
        });
    }

    private static void restoresEverything() {
        section(6, "Undoing restores everything that changes alter.", () -> {
            CrankCalculator x = used();
            x.turn(80);
            due("jammed", 1, () -> x.state(6));
            String jam = portrait(x);
            x.free();
            x.shift(-2);
            x.damage(0, 1);
            x.repair(3);
            x.multiply(98, true);
            x.divide();
            x.transfer();
            x.setPin(2, 9);
            x.clear(0);
            for (int i = 0; i < 9; i++) {
                x.undo();
            }
            dueText("all of it", jam, portrait(x));
            due("the jammed turn goes on", 1, x::free);
            x.undo();
            isTrue("or is cranked back", () -> x.crankBack() > 0);
            x.undo();
            x.undo();
            dueText("up to the turn", portrait(used()), portrait(x));
            x.undo();
            dueText("up to the setup", portrait(made(MACHINE)), portrait(x));
            crankedBackUndone();
            // what changes do not alter
            CrankCalculator y = new CrankCalculator();
            y.setPins(5);
            y.show();
            y.save(0);
            setup(y, "?");
            put(y, "turn 1;");
            y.undo();
            due("the text shown stays", '5', () -> y.textByte(18));
            due("the report stays", 1, y::errorCode);
            due("the buffer stays", 7, () -> y.truncate(7));
            due("the slot stays", 0, () -> y.restore(0));
            due("the slot stays", 5, () -> y.pin(0));
        });
    }

    /** The counts of a jammed turn are brought back with it, and taken back again with it. */
    private static void crankedBackUndone() {
        CrankCalculator x = at("pins 3; wheels 6; slip 1; stuck 3;", "set 555; turn 2;");
        dueRow("count in the jam", row(1, 0, 0, 1, 1, 1), x::count);
        x.crankBack();
        x.undo();
        dueRow("count in the jam again", row(1, 0, 0, 1, 1, 1), x::count);
        dueRow("isLeverSet", row(0, 0, 1, 0, 0, 0), w -> x.isLeverSet(w) ? 1 : 0);
        due("cranked back again", 3, x::crankBack);
        dueRow("count before the jam", row(1, 0, 0, 0, 0, 1), x::count);
        dueRow("steps", row(15, 17, 15, 0, 0, 0), x::steps);
        due("result", 555, x::result);
    }

    private static void changesNothing() {
        section(6, "A method that throws an exception changes nothing, apart from the buffer where it reads it.", () -> {
            refused(ChangeEdges::used, INDEX, "setPin(3, 1)", x -> x.setPin(3, 1));
            refused(ChangeEdges::used, ARGUMENT, "setPins(1000)", x -> x.setPins(1000));
            refused(ChangeEdges::used, ARGUMENT, "turn(100)", x -> x.turn(100));
            refused(ChangeEdges::used, ARGUMENT, "shift(3)", x -> x.shift(3));
            refused(ChangeEdges::used, ARGUMENT, "clear(4)", x -> x.clear(4));
            // the carriage does not go to position 0, or to the highest one
            refused(ChangeEdges::used, STATE, "multiply(999999, false)", x -> x.multiply(999999, false));
            refused(() -> at(MACHINE, "turn 2; shift 1;"), STATE, "divide()", CrankCalculator::divide);
            refused(ChangeEdges::used, STATE, "crankBack()", CrankCalculator::crankBack);
            refused(ChangeEdges::used, STATE, "free()", CrankCalculator::free);
            refused(ChangeEdges::used, STATE, "damage(5, 2)", x -> x.damage(5, 2));
            refused(ChangeEdges::used, INDEX, "repair(7)", x -> x.repair(7));
            refused(ChangeEdges::used, STATE, "restore(0)", x -> x.restore(0));
            refused(ChangeEdges::used, ARGUMENT, "save(2)", x -> x.save(2));
            refused(CrankCalculator::new, STATE, "undo()", CrankCalculator::undo);
            refused(ChangeEdges::jammedLater, STATE, "transfer()", CrankCalculator::transfer);
            refused(ChangeEdges::jammedLater, STATE, "turn(1)", x -> x.turn(1));
            CrankCalculator y = filled(ChangeEdges::jammedLater);
            String before = whole(y);
            dueThrow("script()", STATE, y::script);
            dueText("script() changes nothing", before, whole(y));
            dueThrow("but the buffer, which it reads", ARGUMENT, () -> y.truncate(1));
        });
    }

    private static void listedFirst() {
        section(6, "If several exceptions apply, the one that is listed first is thrown.", () -> {
            dueThrow("setPin, no pin and no digit and jammed", INDEX, () -> jammed().setPin(4, 10));
            dueThrow("setPin, no digit and jammed", ARGUMENT, () -> jammed().setPin(3, 10));
            dueThrow("setPins, out of range and jammed", ARGUMENT, () -> jammed().setPins(-1));
            dueThrow("turn, 0 and jammed", ARGUMENT, () -> jammed().turn(0));
            dueThrow("shift, jammed and no position", STATE, () -> jammed().shift(99));
            dueThrow("clear, out of range and jammed", ARGUMENT, () -> jammed().clear(-1));
            dueThrow("multiply, out of range and jammed", ARGUMENT, () -> jammed().multiply(-1, true));
            dueThrow("multiply, out of range and no position", ARGUMENT, () -> made("pins 8;").multiply(1000000, true));
            dueThrow("damage, no wheel and no fault and jammed", INDEX, () -> jammed().damage(8, 3));
            dueThrow("damage, no fault and jammed", ARGUMENT, () -> jammed().damage(7, 3));
            dueThrow("repair, no wheel and jammed", INDEX, () -> jammed().repair(8));
            dueThrow("jam, not jammed and out of range", STATE, () -> new CrankCalculator().jam(3));
            dueThrow("logged, no turn and out of range", ELEMENT, () -> new CrankCalculator().logged(0, 4));
            dueThrow("resultAfter, 0 and jammed", ARGUMENT, () -> jammed().resultAfter(0));
            dueThrow("turnsToBell, out of range and jammed", ARGUMENT, () -> jammed().turnsToBell(true, 0));
            dueThrow("restore, no slot and nothing saved", ARGUMENT, () -> new CrankCalculator().restore(2));
        });
    }

    private static void save() {
        promise(48, "Saves everything that changes alter.", () -> {
            for (int slot = 0; slot < 2; slot++) {
                int s = slot;
                CrankCalculator x = used();
                x.damage(0, 1);
                x.turn(80);
                String saved = portrait(x);
                x.save(slot);
                dueText("save changes nothing", saved, portrait(x));
                due("save is no change", 3, x::changeCount);
                x.free();
                x.clear(0);
                x.repair(0);
                x.shift(-1);
                x.turn(20);
                due("restore", 2, () -> x.restore(s));
                dueText("everything", saved, portrait(x));
                due("the jammed turn goes on", 1, x::free);
            }
            CrankCalculator y = at("pins 3; wheels 6; slip 1; stuck 3;", "set 555; turn 2;");
            y.save(0);
            y.crankBack();
            y.turn(-1);
            y.restore(0);
            dueRow("count in the jam again", row(1, 0, 0, 1, 1, 1), y::count);
            due("the jammed turn is cranked back", 3, y::crankBack);
            dueRow("count before the jam", row(1, 0, 0, 0, 0, 1), y::count);
        });
        promise(48, "`slot`: 0 or 1", () -> {
            CrankCalculator x = made("pins 2; wheels 9;");
            x.shift(3);
            due("save(0)", 3, () -> x.save(0));
            x.shift(4);
            due("save(1)", 7, () -> x.save(1));
            due("restore(0)", 3, () -> x.restore(0));
            due("restore(1)", 7, () -> x.restore(1));
            x.shift(-2);
            due("save(0) over the old one", 5, () -> x.save(0));
            due("restore(1) as before", 7, () -> x.restore(1));
            due("restore(0) as saved last", 5, () -> x.restore(0));
        });
        promise(48, "Returns the position of the carriage.", () -> {
            due("the lowest", 0, () -> new CrankCalculator().save(0));
            due("the highest", 14, () -> at("pins 2; wheels 16;", "shift 14;").save(1));
            due("jammed", 2, () -> at("stuck 2;", "shift 2; set 1; turn 1;").save(1));
        });
    }

    private static void saveRefused() {
        promise(48, "Throws `IllegalArgumentException` if the slot is out of range", () -> {
            for (int slot : new int[] {-1, 2, LEAST, GREATEST}) {
                refused(ChangeEdges::used, ARGUMENT, "save(" + slot + ")", x -> x.save(slot));
                CrankCalculator y = used();
                dueThrow("save(" + slot + ")", ARGUMENT, () -> y.save(slot));
                dueThrow("nothing is saved by it", STATE, () -> y.restore(0));
                dueThrow("nothing is saved by it", STATE, () -> y.restore(1));
            }
        });
    }

    private static void restore() {
        promise(49, "Restores what was saved, which stays in its slot.", () -> {
            CrankCalculator x = used();
            x.save(0);
            String saved = portrait(x);
            for (int i = 0; i < 3; i++) {
                x.shift(-1);
                x.turn(5);
                x.setPins(1);
                x.restore(0);
                dueText("what was saved", saved, portrait(x));
            }
            x.undo();
            due("undone", 1, () -> x.pin(0));
            x.restore(0);
            dueText("undoing leaves the slot", saved, portrait(x));
            for (int i = 0; i < 13; i++) {
                x.setPins(i);
            }
            x.restore(0);
            dueText("many changes leave the slot", saved, portrait(x));
            x.setup();
            dueThrow("a setup empties it", STATE, () -> x.restore(0));
        });
        promise(49, "`slot`: 0 or 1", () -> {
            CrankCalculator x = new CrankCalculator();
            x.save(0);
            x.setPins(7);
            x.save(1);
            x.restore(0);
            due("0", 0, () -> x.pin(0));
            x.restore(1);
            due("1", 7, () -> x.pin(0));
        });
        promise(49, "Returns the position of the carriage then.", () -> {
            CrankCalculator x = made("pins 2; wheels 16;");
            x.save(0);
            x.shift(14);
            x.save(1);
            due("the lowest", 0, () -> x.restore(0));
            due("as state(4)", 0, () -> x.state(4));
            due("the highest", 14, () -> x.restore(1));
            due("as state(4)", 14, () -> x.state(4));
        });
    }

    private static void restoreRefused() {
        promise(49, "Throws `IllegalArgumentException` if the slot is out of range", () -> {
            for (int slot : new int[] {-1, 2, LEAST, GREATEST}) {
                refused(ChangeEdges::used, ARGUMENT, "restore(" + slot + ")", x -> x.restore(slot));
                dueThrow("with nothing saved at all", ARGUMENT, () -> new CrankCalculator().restore(slot));
            }
        });
        promise(49, "Throws `IllegalStateException` if nothing is saved there", () -> {
            dueThrow("a new object", STATE, () -> new CrankCalculator().restore(0));
            dueThrow("a new object", STATE, () -> new CrankCalculator().restore(1));
            refused(ChangeEdges::used, STATE, "restore(0)", x -> x.restore(0));
            CrankCalculator x = used();
            x.save(0);
            dueThrow("the other slot", STATE, () -> x.restore(1));
            due("this slot", 2, () -> x.restore(0));
            x.save(1);
            due("the other slot", 2, () -> x.restore(1));
            setup(x, "pins 9;");
            due("behind a setup with an error", 2, () -> x.restore(0));
            x.setup();
            dueThrow("behind a setup", STATE, () -> x.restore(0));
            dueThrow("behind a setup", STATE, () -> x.restore(1));
        });
    }

    private static void undo() {
        promise(50, "Undoes the latest change that is not undone.", () -> {
            CrankCalculator x = changedTimes(5);
            x.undo();
            due("the latest", 4, () -> x.pin(0));
            x.undo();
            due("the one before", 3, () -> x.pin(0));
            x.setPins(9);
            x.undo();
            due("a new one", 3, () -> x.pin(0));
            x.undo();
            due("not those that are undone", 2, () -> x.pin(0));
            CrankCalculator y = used();
            y.save(0);
            y.shift(-1);
            y.restore(0);
            y.undo();
            due("a restore", 1, () -> y.state(4));
        });
        promise(50, "Returns the number of changes that can still be undone.", () -> {
            due("the only one", 0, () -> changedTimes(1).undo());
            due("of 12", 11, () -> changedTimes(12).undo());
            due("of 13", 11, () -> changedTimes(13).undo());
            CrankCalculator x = changedTimes(13);
            for (int left = 11; left >= 0; left--) {
                int want = left;
                due("undo", want, x::undo);
            }
        });
        promise(50, "Throws `IllegalStateException` if there is none", () -> {
            refused(CrankCalculator::new, STATE, "undo()", CrankCalculator::undo);
            CrankCalculator x = changedTimes(1);
            x.undo();
            dueThrow("all are undone", STATE, x::undo);
            CrankCalculator y = changedTimes(20);
            y.setup();
            dueThrow("behind a setup", STATE, y::undo);
            CrankCalculator z = new CrankCalculator();
            dueThrow("a refused call is none", ARGUMENT, () -> z.turn(0));
            dueThrow("a refused call is none", STATE, z::undo);
            script(z, "turn");
            dueThrow("nor is a script with an error", STATE, z::undo);
            z.save(0);
            dueThrow("nor is saving", STATE, z::undo);
        });
    }

    private static void changeCount() {
        promise(51, "Returns 0 to 12.", () -> {
            due("0", 0, () -> new CrankCalculator().changeCount());
            due("1", 1, () -> changedTimes(1).changeCount());
            due("11", 11, () -> changedTimes(11).changeCount());
            due("12", 12, () -> changedTimes(12).changeCount());
            due("13", 12, () -> changedTimes(13).changeCount());
            due("30", 12, () -> changedTimes(30).changeCount());
            CrankCalculator x = changedTimes(12);
            x.undo();
            due("one undone", 11, x::changeCount);
            x.undo();
            x.setPins(5);
            due("one more", 11, x::changeCount);
        });
    }
}
