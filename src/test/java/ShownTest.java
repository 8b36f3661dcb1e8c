import java.util.NoSuchElementException;

/** Promises 20 to 35: what the machine shows. */
public final class ShownTest {
    private static final Class<IllegalStateException> STATE = IllegalStateException.class;
    private static final Class<IllegalArgumentException> ARGUMENT = IllegalArgumentException.class;
    private static final Class<IndexOutOfBoundsException> INDEX = IndexOutOfBoundsException.class;
    private static final Class<NoSuchElementException> ELEMENT = NoSuchElementException.class;
    private static final int LEAST = Integer.MIN_VALUE;
    private static final int GREATEST = Integer.MAX_VALUE;

    public static void main(String[] args) {
        state();
        count();
        digits();
        counter();
        pins();
        numbers();
        faults();
        levers();
        jam();
        steps();
        busiest();
        logged();
        loggedRing();
        loggedBell();
        show();
        textByte();
        Check.end();
    }

    private static void state() {
        CrankCalculator x = Check.made("pins 3; wheels 10; counter 5; reach 7; slip 1; slip 2; stuck 2;");
        x.shift(6);
        int[] want = {3, 10, 5, 7, 6, 3, 0};
        for (int what = 0; what < want.length; what++) {
            int w = what;
            Check.due("20 state " + what, want[what], () -> x.state(w));
        }
        x.shift(-5);
        x.setPins(10);
        x.turn(1);
        Check.due("20 jammed", 1, () -> x.state(6));
        x.crankBack();
        Check.due("20 not jammed", 0, () -> x.state(6));
        for (int what : new int[] {-1, 7, LEAST, GREATEST}) {
            Check.dueThrow("20", ARGUMENT, () -> x.state(what));
        }
    }

    private static void count() {
        CrankCalculator x = Check.made("pins 2; wheels 3; reach 0;");
        x.setPins(55);
        x.turn(2);
        x.shift(1);
        x.turn(-1);
        x.damage(2, 2);
        x.turn(1);
        // 55 + 55 = 10, as one carry is lost; 010 - 550 = 460 with a carry and the bell; then wheel 2 jams
        int[] want = {3, 1, 1, 2, 1, 1};
        for (int what = 0; what < want.length; what++) {
            int w = what;
            Check.due("21 count " + what, want[what], () -> x.count(w));
        }
        for (int what : new int[] {-1, 6, LEAST, GREATEST}) {
            Check.dueThrow("21", ARGUMENT, () -> x.count(what));
        }
    }

    private static void digits() {
        CrankCalculator x = Check.made("pins 3; wheels 5;");
        x.setPins(321);
        x.shift(2);
        x.turn(2);
        int[] want = {0, 0, 2, 4, 6};
        for (int wheel = 0; wheel < 5; wheel++) {
            int w = wheel;
            Check.due("22 digit " + wheel, want[wheel], () -> x.digit(w));
        }
        for (int wheel : new int[] {-1, 5, 15, 16, LEAST, GREATEST}) {
            Check.dueThrow("22", INDEX, () -> x.digit(wheel));
            Check.dueThrow("28", INDEX, () -> x.fault(wheel));
            Check.dueThrow("29", INDEX, () -> x.isLeverSet(wheel) ? 1 : 0);
            Check.dueThrow("31", INDEX, () -> x.steps(wheel));
        }
    }

    private static void counter() {
        CrankCalculator x = Check.made("counter 3;");
        x.turn(3);
        x.shift(1);
        x.turn(4);
        x.shift(1);
        x.turn(5);
        Check.due("23", 3, () -> x.counterDigit(0));
        Check.due("23", 4, () -> x.counterDigit(1));
        Check.due("23", 5, () -> x.counterDigit(2));
        Check.due("26", 543, x::counter);
        for (int wheel : new int[] {-1, 3, 4, 8, LEAST, GREATEST}) {
            Check.dueThrow("23", INDEX, () -> x.counterDigit(wheel));
        }
        CrankCalculator y = Check.made("counter 8;");
        y.turn(-1);
        Check.due("26", 99999999, y::counter);
        Check.due("23", 9, () -> y.counterDigit(7));
        Check.due("21", 1, () -> y.count(0));
    }

    private static void pins() {
        CrankCalculator x = Check.made("pins 5;");
        x.setPins(54321);
        for (int pin = 0; pin < 5; pin++) {
            int p = pin;
            Check.due("24", pin + 1, () -> x.pin(p));
        }
        for (int pin : new int[] {-1, 5, 7, 8, LEAST, GREATEST}) {
            Check.dueThrow("24", INDEX, () -> x.pin(pin));
        }
    }

    private static void numbers() {
        CrankCalculator x = Check.made("pins 8; wheels 16;");
        Check.due("27", 10000000000000000L, x::complement);
        x.setPins(1);
        x.turn(-1);
        Check.due("25", 9999999999999999L, x::result);
        Check.due("27", 1, x::complement);
        x.shift(8);
        x.setPins(12345678);
        x.turn(1);
        Check.due("25", 1234567799999999L, x::result);
        Check.due("27", 8765432200000001L, x::complement);
        CrankCalculator y = Check.made("pins 2; wheels 2;");
        y.setPins(42);
        y.turn(1);
        Check.due("27", 58, y::complement);
    }

    private static void faults() {
        CrankCalculator x = Check.made("pins 2; wheels 4; slip 1; stuck 2; stuck 3; slip 3;");
        for (int wheel = 0; wheel < 4; wheel++) {
            int w = wheel;
            Check.due("28", wheel, () -> x.fault(w));
        }
    }

    private static void levers() {
        CrankCalculator x = Check.made("pins 4; wheels 6; stuck 3;");
        x.setPins(555);
        x.turn(1);
        Check.isFalse("29 not in a finished turn", () -> x.isLeverSet(0));
        // wheel 0's lever is released, wheel 1's too, wheel 2's should move wheel 3
        x.turn(1);
        boolean[] want = {false, false, true, false, false, false};
        for (int wheel = 0; wheel < 6; wheel++) {
            int w = wheel;
            Check.due("29 lever " + wheel, want[wheel] ? 1 : 0, () -> x.isLeverSet(w) ? 1 : 0);
        }
        x.free();
        Check.isFalse("29 finished", () -> x.isLeverSet(2));
        x.damage(1, 2);
        // 1110 - 0565: wheel 0 passes, wheel 1 is stuck
        x.setPins(565);
        x.turn(-1);
        Check.due("30", 1, () -> x.jam(0));
        Check.isTrue("29 in the part of the pins", () -> x.isLeverSet(0));
        Check.isFalse("29 not moved yet", () -> x.isLeverSet(1));
        Check.isFalse("29 not moved yet", () -> x.isLeverSet(2));
        x.free();
        Check.due("25", 545, x::result);
    }

    private static void jam() {
        CrankCalculator x = Check.made("pins 3; wheels 6; stuck 3;");
        for (int what : new int[] {-1, 0, 1, 2, 3, LEAST, GREATEST}) {
            Check.dueThrow("30 not jammed first", STATE, () -> x.jam(what));
        }
        x.shift(2);
        x.setPins(120);
        x.turn(-1);
        Check.due("30 wheel", 3, () -> x.jam(0));
        Check.due("30 part", 0, () -> x.jam(1));
        Check.due("30 direction", -1, () -> x.jam(2));
        for (int what : new int[] {-1, 3, LEAST, GREATEST}) {
            Check.dueThrow("30", ARGUMENT, () -> x.jam(what));
        }
        x.crankBack();
        x.setPins(5);
        Check.due("10", 1, () -> x.turn(2));
        Check.due("30 wheel", 3, () -> x.jam(0));
        Check.due("30 part", 1, () -> x.jam(1));
        Check.due("30 direction", 1, () -> x.jam(2));
        x.free();
        Check.dueThrow("30 not jammed", STATE, () -> x.jam(0));
    }

    private static void steps() {
        CrankCalculator x = Check.made("pins 2; wheels 4;");
        x.setPins(99);
        x.turn(2);
        Check.due("31", 18, () -> x.steps(0));
        Check.due("31 with the carry", 19, () -> x.steps(1));
        Check.due("31", 1, () -> x.steps(2));
        Check.due("31", 0, () -> x.steps(3));
        x.turn(-1);
        Check.due("31 back too", 27, () -> x.steps(0));
        Check.due("31 back too", 29, () -> x.steps(1));
        Check.due("31 back too", 2, () -> x.steps(2));
        x.clear(1);
        Check.due("31 no steps by clearing", 27, () -> x.steps(0));
        x.shift(2);
        x.turn(1);
        Check.due("31 shifted", 11, () -> x.steps(2));
        Check.due("31 shifted", 9, () -> x.steps(3));
        x.undo();
        Check.due("31 undone", 2, () -> x.steps(2));
    }

    private static void busiest() {
        CrankCalculator x = Check.made("pins 3; wheels 5;");
        Check.due("32 all 0", 0, x::busiest);
        x.setPins(110);
        x.turn(1);
        Check.due("32 the lowest", 1, x::busiest);
        x.shift(2);
        x.setPins(100);
        x.turn(2);
        Check.due("32 the highest wheel", 4, x::busiest);
        x.setPins(1);
        x.turn(1);
        Check.due("32 a tie", 2, x::busiest);
        x.turn(-1);
        Check.due("32", 2, x::busiest);
    }

    private static void logged() {
        CrankCalculator x = Check.made("pins 3; wheels 6;");
        Check.dueThrow("33 none yet", ELEMENT, () -> x.logged(0, 0));
        Check.dueThrow("33 index first", ELEMENT, () -> x.logged(0, 4));
        x.setPins(123);
        x.turn(1);
        x.shift(3);
        x.setPins(40);
        x.turn(-2);
        x.shift(-1);
        x.turn(1);
        int[][] want = {{1, 0, 123, 0}, {-1, 3, 40, 1}, {-1, 3, 40, 0}, {1, 2, 40, 0}};
        for (int index = 0; index < want.length; index++) {
            for (int what = 0; what < 4; what++) {
                int i = index;
                int w = what;
                Check.due("33 turn " + index + ", " + what, want[index][what], () -> x.logged(i, w));
            }
        }
        for (int index : new int[] {-1, 4, 30, LEAST, GREATEST}) {
            Check.dueThrow("33 index", ELEMENT, () -> x.logged(index, 0));
            Check.dueThrow("33 index first", ELEMENT, () -> x.logged(index, -1));
        }
        for (int what : new int[] {-1, 4, LEAST, GREATEST}) {
            Check.dueThrow("33 what", ARGUMENT, () -> x.logged(3, what));
        }
        x.undo();
        Check.dueThrow("33 undone", ELEMENT, () -> x.logged(3, 0));
        Check.due("33", -1, () -> x.logged(2, 0));
        CrankCalculator y = Check.made("stuck 0;");
        y.setPins(1);
        y.turn(1);
        Check.dueThrow("33 not finished", ELEMENT, () -> y.logged(0, 0));
        y.free();
        Check.due("33 finished", 1, () -> y.logged(0, 2));
    }

    private static void loggedRing() {
        CrankCalculator x = new CrankCalculator();
        for (int i = 1; i <= 30; i++) {
            x.setPins(i);
            x.turn(1);
        }
        Check.due("33 thirty", 1, () -> x.logged(0, 2));
        Check.due("33 thirty", 30, () -> x.logged(29, 2));
        x.setPins(31);
        x.turn(1);
        Check.due("33 the oldest went", 2, () -> x.logged(0, 2));
        Check.due("33 thirty-first", 31, () -> x.logged(29, 2));
        Check.dueThrow("33 no more", ELEMENT, () -> x.logged(30, 0));
        x.undo();
        Check.due("33 the oldest is back", 1, () -> x.logged(0, 2));
        Check.due("33 thirty", 30, () -> x.logged(29, 2));
        x.turn(40);
        Check.due("33 all new", 31, () -> x.logged(0, 2));
        Check.due("33 all new", 31, () -> x.logged(29, 2));
        x.setPins(7);
        x.turn(-29);
        Check.due("33", 31, () -> x.logged(0, 2));
        Check.due("33", 7, () -> x.logged(1, 2));
        Check.due("33", -1, () -> x.logged(1, 0));
    }

    private static void loggedBell() {
        CrankCalculator x = Check.made("pins 2; wheels 2;");
        x.setPins(30);
        x.turn(4);
        Check.due("33 no bell", 0, () -> x.logged(2, 3));
        Check.due("33 bell", 1, () -> x.logged(3, 3));
    }

    private static void show() {
        CrankCalculator x = Check.made("pins 3; wheels 6; counter 2; stuck 5;");
        Check.due("34", 6 + 1 + 1 + 2 + 1 + 3, x::show);
        Check.dueText("34", "000^000 00 000", Check.shown(x));
        x.setPins(123);
        x.turn(4);
        Check.dueText("34", "000^492 04 123", Check.shown(x));
        x.shift(2);
        Check.dueText("34 shifted", "0^00492 04 123", Check.shown(x));
        x.shift(1);
        x.setPins(21);
        x.turn(1);
        Check.dueText("34 highest", "^021492 04 021", Check.shown(x));
        x.setPins(100);
        x.turn(1);
        Check.due("34 jammed", 15, x::show);
        Check.dueText("34 jammed", "^021492 04 100!", Check.shown(x));
        x.free();
        Check.dueText("34 free", "^121492 04 100", Check.shown(x));
        CrankCalculator y = Check.made("pins 8; wheels 16; counter 8; stuck 0;");
        y.setPins(12345678);
        y.turn(1);
        Check.dueText("34 longest", "00000000^00000000 00000000 12345678!", Check.shown(y));
        Check.due("34 longest", 36, y::show);
    }

    private static void textByte() {
        CrankCalculator x = new CrankCalculator();
        Check.dueThrow("35 none yet", ELEMENT, () -> x.textByte(0));
        Check.due("34", 19, x::show);
        Check.due("35", '0', () -> x.textByte(0));
        Check.due("35", '^', () -> x.textByte(4));
        Check.due("35", ' ', () -> x.textByte(9));
        Check.due("35", '0', () -> x.textByte(18));
        for (int index : new int[] {-1, 19, 48, LEAST, GREATEST}) {
            Check.dueThrow("35", ELEMENT, () -> x.textByte(index));
        }
        x.setPins(7);
        Check.due("35 as written", '0', () -> x.textByte(18));
        x.show();
        Check.due("35 written anew", '7', () -> x.textByte(18));
        x.undo();
        Check.due("35 not undone", '7', () -> x.textByte(18));
        Check.setup(x, "pins 2; wheels 2; counter 2;");
        Check.due("35 kept", '7', () -> x.textByte(18));
        Check.due("34", 9, x::show);
        Check.dueThrow("35 shorter now", ELEMENT, () -> x.textByte(9));
    }
}
