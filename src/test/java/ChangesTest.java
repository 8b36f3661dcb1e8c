import java.util.function.Consumer;

/** Promises 48 to 51: saved states and undoing. */
public final class ChangesTest {
    private static final Class<IllegalStateException> STATE = IllegalStateException.class;
    private static final Class<IllegalArgumentException> ARGUMENT = IllegalArgumentException.class;
    private static final int LEAST = Integer.MIN_VALUE;
    private static final int GREATEST = Integer.MAX_VALUE;

    public static void main(String[] args) {
        save();
        restore();
        restoreJam();
        restoreJamOfOtherWay();
        eachChangeIsUndone();
        otherCallsAreNoChanges();
        undoTwelve();
        undoAndGoOn();
        undoOfRestore();
        undoInJam();
        undoKeepsBuffer();
        Check.end();
    }

    private static CrankCalculator used() {
        CrankCalculator x = Check.made("pins 3; wheels 7; counter 3; slip 3; stuck 6;");
        x.setPins(458);
        x.turn(7);
        x.shift(2);
        x.turn(3);
        return x;
    }

    private static void save() {
        CrankCalculator x = used();
        int changes = x.changeCount();
        String before = Check.portrait(x);
        Check.due("48", 2, () -> x.save(0));
        Check.due("48", 2, () -> x.save(1));
        Check.due("48 is no change", changes, x::changeCount);
        Check.dueText("48 changes nothing", before, Check.portrait(x));
        for (int slot : new int[] {-1, 2, LEAST, GREATEST}) {
            Check.dueThrow("48", ARGUMENT, () -> x.save(slot));
        }
    }

    private static void restore() {
        CrankCalculator x = new CrankCalculator();
        Check.dueThrow("49 nothing saved", STATE, () -> x.restore(0));
        Check.dueThrow("49 nothing saved", STATE, () -> x.restore(1));
        Check.due("51 no change", 0, x::changeCount);
        CrankCalculator y = used();
        y.shift(-1);
        String first = Check.portrait(y);
        y.save(0);
        Check.dueThrow("49 the other slot", STATE, () -> y.restore(1));
        y.setPins(999);
        y.repair(6);
        y.turn(99);
        y.damage(0, 2);
        y.clear(2);
        y.shift(2);
        y.save(1);
        String second = Check.portrait(y);
        int changes = y.changeCount();
        Check.due("49", 1, () -> y.restore(0));
        Check.dueText("49 all of it", first, Check.portrait(y));
        Check.due("49 is a change", changes + 1, y::changeCount);
        Check.due("49", 3, () -> y.restore(1));
        Check.dueText("49 all of it", second, Check.portrait(y));
        Check.due("49 it stays", 1, () -> y.restore(0));
        y.turn(5);
        Check.due("49 it stays", 1, () -> y.restore(0));
        Check.dueText("49 as it was saved", first, Check.portrait(y));
        y.shift(1);
        Check.due("48 over the old one", 2, () -> y.save(0));
        y.shift(-2);
        Check.due("49", 2, () -> y.restore(0));
        for (int slot : new int[] {-1, 2, LEAST, GREATEST}) {
            Check.dueThrow("49", ARGUMENT, () -> y.restore(slot));
        }
        Check.due("4", 8, y::setup);
        Check.dueThrow("49 nothing saved behind a setup", STATE, () -> y.restore(0));
    }

    private static void restoreJam() {
        CrankCalculator x = Check.made("pins 3; wheels 5; stuck 2; stuck 3;");
        x.setPins(555);
        x.turn(1);
        x.save(0);
        String jam = Check.portrait(x);
        x.free();
        x.turn(1);
        x.save(1);
        String later = Check.portrait(x);
        x.crankBack();
        x.restore(0);
        Check.dueText("49 jammed", jam, Check.portrait(x));
        Check.due("16", 2, x::crankBack);
        Check.due("25", 0, x::result);
        x.restore(1);
        Check.dueText("49 jammed", later, Check.portrait(x));
        Check.due("17", 1, x::free);
        Check.due("25", 1110, x::result);
    }

    private static void restoreJamOfOtherWay() {
        CrankCalculator x = Check.made("pins 3; wheels 5; stuck 2;");
        x.setPins(123);
        x.turn(-1);
        x.save(0);
        x.crankBack();
        x.setPins(456);
        x.turn(1);
        Check.due("30 forward", 1, () -> x.jam(2));
        x.restore(0);
        Check.due("30 back", -1, () -> x.jam(2));
        Check.due("17", 1, x::free);
        Check.due("25", 100000 - 123, x::result);
        x.undo();
        x.undo();
        Check.due("30 forward", 1, () -> x.jam(2));
        Check.due("16", 2, x::crankBack);
        Check.due("25", 0, x::result);
    }

    private static void undone(String call, CrankCalculator x, Consumer<CrankCalculator> change) {
        String before = Check.portrait(x);
        int changes = x.changeCount();
        change.accept(x);
        Check.due("51 " + call, changes + 1, x::changeCount);
        String after = Check.portrait(x);
        Check.due("50 " + call, changes, x::undo);
        Check.dueText("50 " + call, before, Check.portrait(x));
        change.accept(x);
        Check.dueText("50 " + call + " again", after, Check.portrait(x));
    }

    private static void eachChangeIsUndone() {
        CrankCalculator x = used();
        x.save(0);
        undone("setPin", x, y -> y.setPin(1, 3));
        undone("setPins", x, y -> y.setPins(777));
        undone("turn", x, y -> y.turn(2));
        undone("turn that jams", x, y -> y.turn(80));
        undone("crankBack", x, CrankCalculator::crankBack);
        undone("turn that jams", x, y -> y.turn(80));
        undone("free", x, CrankCalculator::free);
        undone("shift", x, y -> y.shift(-2));
        CrankCalculator z = used();
        z.save(1);
        undone("clear", z, y -> y.clear(0));
        undone("transfer", used(), CrankCalculator::transfer);
        undone("damage", z, y -> y.damage(1, 2));
        undone("repair", z, y -> y.repair(1));
        undone("script", z, y -> Check.script(y, "shift -16; set 5; turn 5; clear pins; shift 2; divide;"));
        undone("restore", z, y -> y.restore(1));
        CrankCalculator u = Check.made("pins 2; wheels 5; slip 1;");
        u.setPins(37);
        undone("multiply", u, y -> y.multiply(198, true));
        undone("divide", u, CrankCalculator::divide);
        // what alters nothing is a change all the same
        undone("setPins", u, y -> y.setPins(37));
        undone("shift by 0", u, y -> y.shift(0));
        undone("repair of nothing", u, y -> y.repair(0));
        CrankCalculator v = Check.made("stuck 0;");
        v.setPins(1);
        undone("turn that jams at once", v, y -> y.turn(1));
    }

    private static void otherCallsAreNoChanges() {
        CrankCalculator x = used();
        int changes = x.changeCount();
        Check.due("four of them", 4, () -> changes);
        x.show();
        x.resultAfter(5);
        x.movedBy(true);
        x.ripple(false);
        x.turnsToBell(true, 9);
        x.turnsFor(5, true);
        x.save(0);
        Check.put(x, "turn");
        x.truncate(2);
        x.setup();
        Check.put(x, "turn");
        x.script();
        Check.due("51", changes, x::changeCount);
    }

    private static void undoTwelve() {
        CrankCalculator x = new CrankCalculator();
        Check.due("51", 0, x::changeCount);
        Check.dueThrow("50 nothing", STATE, x::undo);
        for (int i = 1; i <= 12; i++) {
            int changes = i;
            x.setPins(i);
            Check.due("51", changes, x::changeCount);
        }
        x.setPins(13);
        Check.due("51 no more than 12", 12, x::changeCount);
        x.setPins(14);
        x.setPins(15);
        Check.due("51 no more than 12", 12, x::changeCount);
        for (int i = 11; i >= 0; i--) {
            int left = i;
            Check.due("50", left, x::undo);
            Check.due("50", 3 + left, () -> x.pin(0) + 10 * x.pin(1));
            Check.due("51", left, x::changeCount);
        }
        Check.dueThrow("50 the older ones are forgotten", STATE, x::undo);
        Check.due("24", 3, () -> x.pin(0));
        Check.due("51", 0, x::changeCount);
    }

    private static void undoAndGoOn() {
        CrankCalculator x = new CrankCalculator();
        for (int i = 1; i <= 9; i++) {
            x.setPin(0, i);
        }
        x.undo();
        x.undo();
        x.setPin(1, 1);
        x.setPin(1, 2);
        Check.due("51", 9, x::changeCount);
        x.undo();
        Check.due("24", 1, () -> x.pin(1));
        x.undo();
        Check.due("24", 0, () -> x.pin(1));
        Check.due("24", 7, () -> x.pin(0));
        Check.due("50", 6, x::undo);
        Check.due("24", 6, () -> x.pin(0));
    }

    private static void undoOfRestore() {
        CrankCalculator x = used();
        x.save(0);
        x.shift(1);
        String later = Check.portrait(x);
        x.restore(0);
        Check.due("50", 5, x::undo);
        Check.dueText("50 of restore", later, Check.portrait(x));
        // undoing does not empty or alter a slot
        x.undo();
        x.undo();
        Check.due("49", 2, () -> x.restore(0));
    }

    private static void undoInJam() {
        CrankCalculator x = Check.made("pins 2; wheels 4; stuck 0; stuck 2;");
        x.setPins(55);
        x.turn(3);
        String first = Check.portrait(x);
        x.free();
        Check.due("10 once", 1, () -> x.count(0));
        x.turn(3);
        String second = Check.portrait(x);
        x.free();
        x.turn(3);
        Check.due("21", 5, () -> x.count(0));
        Check.due("50", 5, x::undo);
        Check.due("50", 4, x::undo);
        Check.dueText("50 of free", second, Check.portrait(x));
        Check.due("20", 1, () -> x.state(6));
        Check.due("50", 3, x::undo);
        Check.due("50", 2, x::undo);
        Check.dueText("50 of free", first, Check.portrait(x));
        Check.due("17", 1, x::free);
        Check.due("25", 55, x::result);
    }

    private static void undoKeepsBuffer() {
        CrankCalculator x = new CrankCalculator();
        Check.script(x, "set 5;");
        Check.put(x, "turn 2;");
        x.undo();
        Check.due("3 still there", 7, () -> x.truncate(7));
        x.setPins(3);
        Check.due("5", 1, x::script);
        Check.due("25", 6, x::result);
    }
}
