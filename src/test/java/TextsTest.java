import java.util.NoSuchElementException;

/** Promises 1 to 7: a new object, the buffer, setups and scripts with their errors. */
public final class TextsTest {
    private static final Class<IllegalStateException> STATE = IllegalStateException.class;
    private static final Class<IllegalArgumentException> ARGUMENT = IllegalArgumentException.class;
    private static final int BLANKS = 0x20202020;

    public static void main(String[] args) {
        newObject();
        append();
        appendsHighestByteFirst();
        truncate();
        setup();
        setupReplacesAll();
        setupBehindPredictions();
        setupErrors();
        tokens();
        script();
        scriptCommands();
        scriptEnds();
        scriptErrors();
        scriptLimit();
        jammedScript();
        errorReport();
        Check.end();
    }

    private static void newObject() {
        CrankCalculator x = new CrankCalculator();
        Check.due("1 pins", 4, () -> x.state(0));
        Check.due("1 wheels", 8, () -> x.state(1));
        Check.due("1 counter", 4, () -> x.state(2));
        Check.due("1 reach", 16, () -> x.state(3));
        Check.due("1 carriage", 0, () -> x.state(4));
        Check.due("1 faults", 0, () -> x.state(5));
        Check.due("1 jammed", 0, () -> x.state(6));
        Check.due("1 result", 0, x::result);
        Check.due("1 counter number", 0, x::counter);
        Check.due("1 due", 0, x::dueResult);
        for (int wheel = 0; wheel < 8; wheel++) {
            int w = wheel;
            Check.due("1 fault", 0, () -> x.fault(w));
            Check.due("1 steps", 0, () -> x.steps(w));
        }
        Check.dueText("1 shown", "0000^0000 0000 0000", Check.shown(x));
        Check.due("1 changes", 0, x::changeCount);
        Check.due("1 buffer is empty", 0, () -> x.truncate(0));
        Check.dueThrow("1 buffer is empty", ARGUMENT, () -> x.truncate(1));
        Check.due("NONE", -1, () -> CrankCalculator.NONE);
    }

    private static void append() {
        CrankCalculator x = new CrankCalculator();
        for (int i = 1; i <= 45; i++) {
            int length = 20 * i;
            Check.due("2 append", length, () -> x.append(BLANKS, BLANKS, BLANKS, BLANKS, BLANKS));
        }
        Check.dueThrow("2 append to 920", STATE, () -> x.append(1, 2, 3, 4, 5));
        Check.due("2 still 900", 900, () -> x.truncate(900));
        Check.due("3 to 881", 881, () -> x.truncate(881));
        Check.dueThrow("2 append to 901", STATE, () -> x.append(1, 2, 3, 4, 5));
        Check.due("3 still 881", 881, () -> x.truncate(881));
        Check.due("3 to 880", 880, () -> x.truncate(880));
        Check.due("2 append to 900", 900, () -> x.append(BLANKS, BLANKS, BLANKS, BLANKS, BLANKS));
        Check.due("4 900 blanks", 8, x::setup);
        Check.due("4 emptied it", 20, () -> x.append(BLANKS, BLANKS, BLANKS, BLANKS, BLANKS));
    }

    private static void appendsHighestByteFirst() {
        CrankCalculator x = new CrankCalculator();
        // "pins", " 002", ";whe", "els ", "2  ;"
        Check.due("2", 20, () -> x.append(0x70696e73, 0x20303032, 0x3b776865, 0x656c7320, 0x3220203b));
        Check.due("4 of it", 2, x::setup);
        Check.due("4 pins", 2, () -> x.state(0));
        Check.due("4 wheels", 2, () -> x.state(1));
        // bytes from 128 on are tokens of their own, which no text allows
        Check.due("2", 20, () -> x.append(0x20202020, 0x2020ff20, 0x20202020, 0x20202020, -1));
        Check.due("4 of it", -1, x::setup);
        Check.due("6", 1, x::errorCode);
        Check.due("7", 6, x::errorPosition);
    }

    private static void truncate() {
        CrankCalculator x = new CrankCalculator();
        Check.put(x, "pins 3; wheels 5;");
        Check.dueThrow("3 beyond", ARGUMENT, () -> x.truncate(18));
        Check.dueThrow("3 negative", ARGUMENT, () -> x.truncate(-1));
        Check.dueThrow("3 least", ARGUMENT, () -> x.truncate(Integer.MIN_VALUE));
        Check.dueThrow("3 greatest", ARGUMENT, () -> x.truncate(Integer.MAX_VALUE));
        Check.due("3 whole", 17, () -> x.truncate(17));
        Check.due("3 cut", 7, () -> x.truncate(7));
        Check.dueThrow("3 cut is gone", ARGUMENT, () -> x.truncate(8));
        Check.due("4 of the rest", 8, x::setup);
        Check.due("4 pins", 3, () -> x.state(0));
        Check.put(x, "abc");
        Check.due("3 to nothing", 0, () -> x.truncate(0));
        Check.due("4 of nothing", 8, x::setup);
    }

    private static void setup() {
        CrankCalculator x = new CrankCalculator();
        Check.due("4", 12, () -> Check.setup(x, "pins 5;\nwheels 12;counter 6;reach 3;slip 0;slip 11;stuck 0;stuck 7;"));
        int[] states = {5, 12, 6, 3, 0, 4, 0};
        for (int what = 0; what < states.length; what++) {
            int w = what;
            Check.due("4 state " + what, states[what], () -> x.state(w));
        }
        int[] faults = {3, 0, 0, 0, 0, 0, 0, 2, 0, 0, 0, 1};
        for (int wheel = 0; wheel < faults.length; wheel++) {
            int w = wheel;
            Check.due("4 fault " + wheel, faults[wheel], () -> x.fault(w));
        }
        Check.due("4 other order", 16, () -> Check.setup(x, "reach 0; counter 8; wheels 16; pins 8; stuck 15;"));
        Check.dueText("4 shown", "00000000^00000000 00000000 00000000", Check.shown(x));
        Check.due("4 least", 2, () -> Check.setup(x, "pins 2; wheels 2; counter 2; reach 16; slip 1;"));
        Check.dueText("4 shown", "^00 00 00", Check.shown(x));
        Check.due("4 pins alone", 8, () -> Check.setup(x, "pins 8;"));
        Check.due("4 pins", 8, () -> x.state(0));
        Check.due("4 wheels as pins at first", 4, () -> Check.setup(x, "wheels 4;"));
        Check.due("4 pins as wheels told", 6, () -> Check.setup(x, "wheels 6; pins 6;"));
        Check.due("4 empty", 8, x::setup);
        Check.due("4 empty is the first machine", 4, () -> x.state(0));
        // the numbers "at first" count, not those of the machine before
        Check.due("4", 16, () -> Check.setup(x, "wheels 16;"));
        Check.due("4 slip beyond 8", -1, () -> Check.setup(x, "slip 8;"));
        Check.due("4 slip 7", 8, () -> Check.setup(x, "slip 7;"));
    }

    private static void setupReplacesAll() {
        CrankCalculator x = new CrankCalculator();
        x.setPins(1234);
        x.damage(7, 1);
        x.damage(3, 2);
        x.shift(1);
        x.turn(-5);
        x.free();
        x.shift(1);
        x.turn(-5);
        x.save(0);
        x.save(1);
        String before = Check.portrait(x);
        Check.due("4 with an error", -1, () -> Check.setup(x, "pins 3; wheels 2;"));
        Check.dueText("4 with an error changes nothing", before, Check.portrait(x));
        Check.due("4 nor the changes", 8, x::changeCount);
        Check.due("4 nor what is saved", 2, () -> x.restore(0));
        Check.due("4", 8, x::setup);
        Check.dueText("4 makes it new", Check.portrait(new CrankCalculator()), Check.portrait(x));
        Check.due("4 nothing to undo", 0, x::changeCount);
        Check.dueThrow("4 nothing to undo", STATE, x::undo);
        Check.dueThrow("4 nothing saved", STATE, () -> x.restore(0));
        Check.dueThrow("4 nothing saved", STATE, () -> x.restore(1));
        x.setPins(99);
        x.damage(2, 2);
        x.turn(2);
        Check.due("jammed", 1, () -> x.state(6));
        Check.due("4 jammed", 8, x::setup);
        Check.dueText("4 makes it new", Check.portrait(new CrankCalculator()), Check.portrait(x));
    }

    /** What was predicted before must not be left in the new machine. */
    private static void setupBehindPredictions() {
        CrankCalculator x = Check.made("pins 3; wheels 9; counter 6; reach 2; slip 1; stuck 8;");
        x.setPins(987);
        x.turn(9);
        x.shift(2);
        x.turn(1);
        x.shift(2);
        x.resultAfter(99);
        Check.due("4", 8, x::setup);
        Check.dueText("4 makes it new", Check.portrait(new CrankCalculator()), Check.portrait(x));
        Check.due("10 of the new one", 5, () -> x.turn(5));
        Check.due("33 of the new one", 0, () -> x.logged(4, 2));
        x.setPins(5);
        x.turn(2);
        x.movedBy(true);
        Check.due("4", 8, () -> Check.setup(x, "stuck 3;"));
        Check.dueText("4 makes it new", Check.portrait(Check.made("stuck 3;")), Check.portrait(x));
    }

    private static void setupError(String text, int code, int position) {
        CrankCalculator x = new CrankCalculator();
        Check.due("4 \"" + text + "\"", -1, () -> Check.setup(x, text));
        Check.due("6 \"" + text + "\"", code, x::errorCode);
        Check.due("7 \"" + text + "\"", position, x::errorPosition);
        Check.dueThrow("4 emptied the buffer", ARGUMENT, () -> x.truncate(1));
    }

    private static void setupErrors() {
        setupError("pins 1;", 2, 5);
        setupError("pins 9;", 2, 5);
        setupError("wheels 3;", 2, 7);
        setupError("wheels 17;", 2, 7);
        setupError("pins 5; wheels 4;", 2, 15);
        setupError("pins 2; wheels 1;", 2, 15);
        setupError("wheels 5; pins 6;", 2, 15);
        setupError("wheels 16; pins 9;", 2, 16);
        setupError("counter 1;", 2, 8);
        setupError("counter 9;", 2, 8);
        setupError("reach 17;", 2, 6);
        setupError("slip 8;", 2, 5);
        setupError("stuck 8;", 2, 6);
        setupError("wheels 9; slip 9;", 2, 15);
        setupError("wheels 5; stuck 5;", 2, 16);
        setupError("pins 2; pins 3;", 3, 8);
        setupError("wheels 9; wheels 9;", 3, 10);
        setupError("counter 2; reach 1; counter 2;", 3, 20);
        setupError("reach 2; reach 2;", 3, 9);
        setupError("slip 1; slip 2; slip 1;", 3, 21);
        setupError("stuck 1; slip 1; stuck 1;", 3, 23);
        setupError("slip 0; pins 4;", 3, 8);
        setupError("stuck 0; pins 4;", 3, 9);
        setupError("slip 0; wheels 8;", 3, 8);
        setupError("stuck 0; counter 4; wheels", 3, 20);
        setupError("pins", 1, 4);
        setupError("pins 3", 1, 6);
        setupError("pins 3  \n", 1, 9);
        setupError("pins ;", 1, 5);
        setupError("pins 3 3;", 1, 7);
        setupError("pins 3;;", 1, 7);
        setupError(" ;", 1, 1);
        setupError("3;", 1, 0);
        setupError("pin 3;", 1, 0);
        setupError("pinss 3;", 1, 0);
        setupError("pinsz 3;", 1, 0);
        setupError("apins 3;", 1, 0);
        for (String ending : new String[] {"ins", "heels", "ounter", "each", "lip", "tuck"}) {
            setupError("x" + ending + " 3;", 1, 0);
        }
        setupError("Pins 3;", 1, 0);
        setupError("set 3;", 1, 0);
        setupError("pins -3;", 1, 5);
        setupError("pins wheels;", 1, 5);
        setupError("pins\t3;", 1, 4);
        setupError("slip 0; pins", 3, 8);
        setupError("reach 99999999;", 2, 6);
        setupError("reach 100000000;", 1, 6);
    }

    private static void tokens() {
        CrankCalculator x = new CrankCalculator();
        Check.due("no blanks", 9, () -> Check.setup(x, "pins3;wheels9;counter5;reach0;slip8;"));
        Check.due("pins", 3, () -> x.state(0));
        Check.due("many blanks", 9, () -> Check.setup(x, "\n \npins \n3 \n ;\n\nwheels  9 ; "));
        Check.due("eight digits", 8, () -> Check.setup(x, "pins 00000003;"));
        Check.due("pins", 3, () -> x.state(0));
        setupError("pins 000000003;", 1, 5);
        setupError("reach 4294967298;", 1, 6);
        setupError("counters 3;", 1, 0);
        setupError("counterss 3;", 1, 0);
        setupError("pins 3a;", 1, 6);
        setupError("pins3pins;", 1, 5);
    }

    private static void script() {
        CrankCalculator x = new CrankCalculator();
        Check.due("5", 4, () -> Check.script(x, "set 999; turn 1; set 1; turn 1;"));
        Check.due("5 result", 1000, x::result);
        Check.due("5 is one change", 1, x::changeCount);
        Check.due("5 empty", 0, x::script);
        Check.due("5 empty is a change too", 2, x::changeCount);
        Check.due("5 blank", 0, () -> Check.script(x, " \n "));
        Check.due("50", 2, x::undo);
        Check.due("50", 1, x::undo);
        Check.due("50", 0, x::undo);
        Check.due("50 all commands", 0, x::result);
        Check.due("50 all commands", 0, x::counter);
        Check.due("5 with an error", -1, () -> Check.script(x, "set 5; turn 1; turn"));
        Check.due("5 with an error is no change", 0, x::changeCount);
        Check.due("5 with an error does nothing", 0, x::result);
    }

    private static void scriptCommands() {
        CrankCalculator x = Check.made("pins 3; wheels 6;");
        Check.due("5 set", 1, () -> Check.script(x, "set 999;"));
        Check.due("9", 999, () -> x.setPins(12));
        Check.due("5 turn", 1, () -> Check.script(x, "turn 99;"));
        Check.due("25", 12 * 99, x::result);
        Check.due("5 turn back", 1, () -> Check.script(x, "turn - 98;"));
        Check.due("25", 12, x::result);
        Check.due("5 turn back", 1, () -> Check.script(x, "turn-1;"));
        Check.due("25", 0, x::result);
        Check.due("5 shift", 1, () -> Check.script(x, "shift 2;"));
        Check.due("20", 2, () -> x.state(4));
        Check.due("5 shift too far", 1, () -> Check.script(x, "shift 16;"));
        Check.due("20", 3, () -> x.state(4));
        Check.due("5 shift back", 1, () -> Check.script(x, "shift - 1;"));
        Check.due("20", 2, () -> x.state(4));
        Check.due("5 shift by 0", 2, () -> Check.script(x, "shift 0; shift -0;"));
        Check.due("20", 2, () -> x.state(4));
        Check.due("5 shift back too far", 1, () -> Check.script(x, "shift -16;"));
        Check.due("20", 0, () -> x.state(4));
        Check.due("5 times", 2, () -> Check.script(x, "shift 3; times 305;"));
        Check.due("25", 3660, x::result);
        Check.due("26", 305, x::counter);
        Check.due("20", 2, () -> x.state(4));
        Check.due("5 clear", 1, () -> Check.script(x, "clear;"));
        Check.dueText("34", "0^00000 0000 000", Check.shown(x));
        Check.due("5 times short", 2, () -> Check.script(x, "set 12; times 98 short;"));
        Check.due("25", 1176, x::result);
        Check.due("21 turns", 99 + 98 + 1 + 8 + 3, () -> x.count(0));
        Check.due("5 clear pins", 1, () -> Check.script(x, "clear pins;"));
        Check.due("24", 0, () -> x.pin(0) + x.pin(1));
        Check.due("25", 1176, x::result);
        Check.due("5 clear counter", 1, () -> Check.script(x, "clear counter;"));
        Check.due("26", 0, x::counter);
        Check.due("25", 1176, x::result);
        Check.due("5 divide", 2, () -> Check.script(x, "set 100; divide;"));
        Check.due("26", 11, x::counter);
        Check.due("25", 76, x::result);
        Check.due("5 clear result", 1, () -> Check.script(x, "clear result;"));
        Check.due("25", 0, x::result);
        Check.due("36", 0, x::dueResult);
        Check.due("26", 11, x::counter);
        Check.due("24", 1, () -> x.pin(2));
        Check.due("5 times 0", 2, () -> Check.script(x, "shift 1; times 0;"));
        Check.due("20", 0, () -> x.state(4));
    }

    private static void scriptEnds() {
        CrankCalculator x = Check.made("pins 2; wheels 3; stuck 2;");
        Check.due("5 a jam ends it", 2, () -> Check.script(x, "set 60; turn 1; turn 3; set 1; clear;"));
        Check.due("20 jammed", 1, () -> x.state(6));
        Check.due("21 turns", 1, () -> x.count(0));
        Check.due("24", 6, () -> x.pin(1));
        Check.due("50", 0, x::undo);
        Check.due("20 not jammed", 0, () -> x.state(6));
        Check.due("5 a jam in times ends it", 1, () -> Check.script(x, "set 60; times 3; clear;"));
        Check.due("50", 0, x::undo);
        Check.due("5 a jam in divide ends it", 1, () -> Check.script(x, "set 60; divide; clear;"));
        Check.due("30 back", -1, () -> x.jam(2));
        Check.due("50", 0, x::undo);
        Check.due("5 no position ends it", 2, () -> Check.script(x, "set 11; shift 1; times 100; clear;"));
        Check.due("20 not jammed", 0, () -> x.state(6));
        Check.due("20 the carriage stays", 1, () -> x.state(4));
        Check.due("24", 1, () -> x.pin(1));
        Check.due("5 no position on the short way", 0, () -> Check.script(x, "times 60 short; clear;"));
        Check.due("5 pins 0 end it", 1, () -> Check.script(x, "clear; divide; set 5;"));
        Check.due("24", 0, () -> x.pin(0));
        Check.due("5 which is a change", 3, x::changeCount);
    }

    private static void scriptError(String text, int code, int position) {
        CrankCalculator x = Check.made("pins 3; counter 5;");
        Check.due("5 \"" + text + "\"", -1, () -> Check.script(x, text));
        Check.due("6 \"" + text + "\"", code, x::errorCode);
        Check.due("7 \"" + text + "\"", position, x::errorPosition);
        Check.due("5 no change", 0, x::changeCount);
        Check.dueThrow("5 emptied the buffer", ARGUMENT, () -> x.truncate(1));
    }

    private static void scriptErrors() {
        scriptError("set 1000;", 2, 4);
        scriptError("set -1;", 1, 4);
        scriptError("turn 0;", 2, 5);
        scriptError("turn 100;", 2, 5);
        scriptError("turn - 0;", 2, 7);
        scriptError("turn -100;", 2, 6);
        scriptError("turn - - 1;", 1, 7);
        scriptError("shift 17;", 2, 6);
        scriptError("shift -17;", 2, 7);
        scriptError("times 1000000;", 2, 6);
        scriptError("times -1;", 1, 6);
        scriptError("times 1 shor;", 1, 8);
        scriptError("times 1 short short;", 1, 14);
        scriptError("times short;", 1, 6);
        scriptError("clear all;", 1, 6);
        scriptError("clear result counter;", 1, 13);
        scriptError("clear 1;", 1, 6);
        scriptError("divide 1;", 1, 7);
        scriptError("divide", 1, 6);
        scriptError("divide;;", 1, 7);
        scriptError("pins 3;", 1, 0);
        scriptError("set", 1, 3);
        scriptError("set 1 short;", 1, 6);
        scriptError("set 1 -", 1, 6);
        scriptError("turn 1 short;", 1, 7);
        scriptError("turn -", 1, 6);
        scriptError("set 1; sett 2;", 1, 7);
        for (String ending : new String[] {"et 1", "urn 1", "hift 1", "lear", "imes 1", "ivide"}) {
            scriptError("x" + ending + ";", 1, 0);
        }
        for (String ending : new String[] {"esult", "ounter", "ins"}) {
            scriptError("clear x" + ending + ";", 1, 6);
        }
        scriptError("times 1 xhort;", 1, 8);
        scriptError("set 1; setsetset 2;", 1, 7);
        scriptError("set 000000001;", 1, 4);
        scriptError("clear resultat;", 1, 6);
        scriptError("turn 0; foo;", 2, 5);
        scriptError("!", 1, 0);
        CrankCalculator x = Check.made("pins 8; wheels 16;");
        Check.due("5 all pins", 1, () -> Check.script(x, "set 99999999;"));
        Check.due("24", 9, () -> x.pin(7));
    }

    private static void scriptLimit() {
        String forty = "turn 1;".repeat(40);
        CrankCalculator x = new CrankCalculator();
        Check.due("5 forty commands", 40, () -> Check.script(x, forty));
        Check.due("21", 40, () -> x.count(0));
        scriptError(forty + "turn 1;", 4, 280);
        scriptError(forty + " turn", 4, 281);
        scriptError(forty + "turn 0;", 4, 280);
        scriptError(forty + "foo", 1, 280);
        scriptError(forty + ";", 1, 280);
        scriptError(forty + " 5", 1, 281);
        scriptError("turn 0;" + forty, 2, 5);
        // the setup knows no such limit
        StringBuilder text = new StringBuilder("wheels 16;");
        for (int wheel = 0; wheel < 16; wheel++) {
            text.append("slip ").append(wheel).append(";stuck ").append(wheel).append(';');
        }
        Check.due("4 long", 16, () -> Check.setup(x, text.toString()));
        Check.due("20", 32, () -> x.state(5));
    }

    private static void jammedScript() {
        CrankCalculator x = Check.made("stuck 0;");
        Check.script(x, "foo");
        x.setPins(1);
        x.turn(1);
        Check.put(x, "clear;");
        String before = Check.portrait(x);
        Check.dueThrow("5 jammed", STATE, x::script);
        Check.dueText("5 jammed changes nothing", before, Check.portrait(x));
        Check.due("5 jammed is no change", 2, x::changeCount);
        Check.dueThrow("5 jammed empties the buffer", ARGUMENT, () -> x.truncate(1));
        Check.due("6 as before the call that threw", 1, x::errorCode);
        Check.due("7 as before the call that threw", 0, x::errorPosition);
        Check.put(x, "foo");
        Check.dueThrow("5 jammed, with an error", STATE, x::script);
    }

    private static void errorReport() {
        CrankCalculator x = new CrankCalculator();
        Check.due("6 at first", 0, x::errorCode);
        Check.due("7 at first", -1, x::errorPosition);
        Check.script(x, "set 1; turn 0;");
        Check.due("6", 2, x::errorCode);
        Check.due("7", 12, x::errorPosition);
        x.setPins(5);
        x.turn(1);
        x.undo();
        Check.due("6 stays", 2, x::errorCode);
        Check.due("7 stays", 12, x::errorPosition);
        Check.script(x, "set 1;");
        Check.due("6 no error", 0, x::errorCode);
        Check.due("7 no error", -1, x::errorPosition);
        Check.setup(x, "pins 2; pins 2;");
        Check.due("6", 3, x::errorCode);
        Check.due("7", 8, x::errorPosition);
        Check.setup(x, "pins 2;");
        Check.due("6 no error", 0, x::errorCode);
        Check.due("7 no error", -1, x::errorPosition);
        Check.dueThrow("35 no text yet", NoSuchElementException.class, () -> x.textByte(0));
    }
}
