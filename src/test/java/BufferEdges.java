/** The constant, the buffer in section 5, and promises 1 to 3. */
final class BufferEdges extends Edge {
    private static final int BLANKS = 0x20202020;

    private BufferEdges() {
    }

    static void all() {
        none();
        newObject();
        mostBytes();
        addsAndCuts();
        emptied();
        append();
        parameters();
        full();
        truncate();
    }

    private static int blanks(CrankCalculator x) {
        return x.append(BLANKS, BLANKS, BLANKS, BLANKS, BLANKS);
    }

    private static CrankCalculator filledTo(int length) {
        CrankCalculator x = new CrankCalculator();
        for (int i = 0; i < length; i += 20) {
            blanks(x);
        }
        x.truncate(length);
        return x;
    }

    /** The length, without changing it. */
    private static void dueLength(String call, int length, CrankCalculator x) {
        dueThrow(call + ": there are no more bytes than " + length, ARGUMENT, () -> x.truncate(length + 1));
        due(call + ": there are " + length + " bytes", length, () -> x.truncate(length));
    }

    private static void none() {
        holds("Constants", "`NONE = -1`: There is no such thing.", () -> due("NONE", -1, () -> CrankCalculator.NONE));
    }

    private static void newObject() {
        promise(1, "Creates a machine with 4 pins, 8 result wheels and 4 counter wheels, without faults.", () -> {
            CrankCalculator x = new CrankCalculator();
            dueRow("state", row(4, 8, 4, 16, 0, 0, 0), x::state);
            dueRow("count", row(0, 0, 0, 0, 0, 0), x::count);
            dueRow("fault", row(0, 0, 0, 0, 0, 0, 0, 0), x::fault);
            dueRow("steps", row(0, 0, 0, 0, 0, 0, 0, 0), x::steps);
            dueRow("pin", row(0, 0, 0, 0), x::pin);
            dueThrow("a fifth pin", INDEX, () -> x.pin(4));
            dueThrow("a ninth wheel", INDEX, () -> x.digit(8));
            dueThrow("a fifth counter wheel", INDEX, () -> x.counterDigit(4));
            due("result", 0, x::result);
            due("counter", 0, x::counter);
            due("due result", 0, x::dueResult);
            due("changes", 0, x::changeCount);
            dueThrow("nothing is saved", STATE, () -> x.restore(0));
            dueThrow("nothing is saved", STATE, () -> x.restore(1));
            CrankCalculator y = new CrankCalculator();
            x.setPins(5);
            x.turn(1);
            due("an object of its own", 0, y::result);
        });
    }

    private static void mostBytes() {
        section(5, "The object has an input buffer of at most 900 bytes, which is empty at first.", () -> {
            dueLength("a new object", 0, new CrankCalculator());
            CrankCalculator x = filledTo(900);
            dueLength("a full buffer", 900, x);
            dueThrow("one more", STATE, () -> blanks(x));
            dueLength("a full buffer still", 900, x);
            due("all of it is read", 8, x::setup);
            CrankCalculator y = filledTo(880);
            y.append(BLANKS, BLANKS, BLANKS, BLANKS, 0x20202021);
            due("the last byte is read", NONE, y::setup);
            due("the last byte is read", 899, y::errorPosition);
        });
    }

    private static void addsAndCuts() {
        section(5, "The method append adds bytes and the method truncate cuts bytes off.", () -> {
            CrankCalculator x = filledTo(3);
            due("append", 23, () -> x.append(0x70696e73, 0x20333b20, BLANKS, BLANKS, 0x2020203f));
            due("truncate", 22, () -> x.truncate(22));
            due("what is left", 8, x::setup);
            due("pins", 3, () -> x.state(0));
        });
    }

    private static void emptied() {
        section(5, "The methods setup and script read the buffer and empty it, whatever their result.", () -> {
            CrankCalculator x = new CrankCalculator();
            setup(x, "pins 3;");
            dueLength("setup without error", 0, x);
            setup(x, "pins 9; counter 2;");
            dueLength("setup with an error", 0, x);
            script(x, "set 1; turn 1;");
            dueLength("script without error", 0, x);
            script(x, "set 1; turn;");
            dueLength("script with an error", 0, x);
            script(x, "clear pins; divide; turn 1;");
            dueLength("script that ends early", 0, x);
            CrankCalculator y = jammed();
            dueLength("script that jams", 0, y);
            put(y, "clear;");
            dueThrow("script that throws", STATE, y::script);
            dueLength("script that throws", 0, y);
            put(y, "pins 2;");
            due("setup of a jammed machine", 8, y::setup);
            dueLength("setup of a jammed machine", 0, y);
            due("what was read is not read again", 0, x::script);
        });
    }

    private static void append() {
        promise(2, "Appends the 20 bytes of five numbers to the buffer, each number with its highest byte first.", () -> {
            // "pins", " 002", ";whe", "els ", "2  ;"
            CrankCalculator x = new CrankCalculator();
            due("append", 20, () -> x.append(0x70696e73, 0x20303032, 0x3b776865, 0x656c7320, 0x3220203b));
            due("setup of it", 2, x::setup);
            due("pins", 2, () -> x.state(0));
            // bytes from 128 on, which make a number negative
            CrankCalculator y = new CrankCalculator();
            due("append", 20, () -> y.append(LEAST, -1, GREATEST, 0, 0xff));
            due("setup of it", NONE, y::setup);
            due("errorPosition", 0, y::errorPosition);
            // behind what is there, also where it was cut
            CrankCalculator z = new CrankCalculator();
            put(z, "turn 1; tu");
            due("append", 30, () -> z.append(0x726e2032, 0x3b202020, BLANKS, BLANKS, BLANKS));
            due("script of it", 2, z::script);
            due("turns", 3, () -> z.count(0));
        });
        promise(2, "Returns the new length of the buffer.", () -> {
            CrankCalculator x = new CrankCalculator();
            for (int length = 20; length <= 900; length += 20) {
                int want = length;
                due("append", want, () -> blanks(x));
            }
            x.truncate(7);
            due("append behind 7 bytes", 27, () -> blanks(x));
        });
    }

    /** A byte that is not allowed at each of the places that a number fills. */
    private static void placed(int number) {
        for (int place = 0; place < 4; place++) {
            int[] numbers = {BLANKS, BLANKS, BLANKS, BLANKS, BLANKS};
            numbers[number] += 0xa0 << 8 * (3 - place);
            int want = 4 * number + place;
            CrankCalculator x = new CrankCalculator();
            x.append(numbers[0], numbers[1], numbers[2], numbers[3], numbers[4]);
            due("setup", NONE, x::setup);
            due("errorPosition", want, x::errorPosition);
        }
    }

    private static void parameters() {
        promise(2, "`a`: bytes 1 to 4", () -> placed(0));
        promise(2, "`b`: bytes 5 to 8", () -> placed(1));
        promise(2, "`c`: bytes 9 to 12", () -> placed(2));
        promise(2, "`d`: bytes 13 to 16", () -> placed(3));
        promise(2, "`e`: bytes 17 to 20", () -> placed(4));
    }

    private static void full() {
        promise(2, "Throws `IllegalStateException` if the length would exceed 900 bytes", () -> {
            due("880 bytes and 20", 900, () -> blanks(filledTo(880)));
            due("879 bytes and 20", 899, () -> blanks(filledTo(879)));
            for (int length : new int[] {881, 890, 899, 900}) {
                CrankCalculator x = filledTo(length);
                String before = whole(x);
                dueThrow(length + " bytes and 20", STATE, () -> x.append(0x3f3f3f3f, 0, 0, 0, 0));
                dueText("changes nothing", before, whole(x));
                dueLength("adds nothing", length, x);
                due("of the refused bytes none is read", 8, x::setup);
            }
        });
    }

    private static void truncate() {
        promise(3, "Shortens the buffer to its first bytes.", () -> {
            CrankCalculator x = new CrankCalculator();
            put(x, "pins 3; wheels 5;");
            x.truncate(7);
            due("the first bytes", 8, x::setup);
            due("the first bytes", 3, () -> x.state(0));
            put(x, "pins 2; ??");
            x.truncate(8);
            x.append(0x77686565, 0x6c732033, 0x3b202020, BLANKS, BLANKS);
            due("and others behind them", 3, x::setup);
        });
        promise(3, "`length`: the new length, from 0 to the current length", () -> {
            due("the current length", 17, () -> filledTo(17).truncate(17));
            due("one less", 16, () -> filledTo(17).truncate(16));
            due("0", 0, () -> filledTo(17).truncate(0));
            due("0 of 0", 0, () -> filledTo(0).truncate(0));
            due("900 of 900", 900, () -> filledTo(900).truncate(900));
            CrankCalculator x = filledTo(17);
            x.truncate(16);
            dueLength("what was cut off", 16, x);
            x.truncate(0);
            dueLength("all cut off", 0, x);
        });
        promise(3, "Returns the new length.", () -> {
            CrankCalculator x = filledTo(40);
            due("truncate", 40, () -> x.truncate(40));
            due("truncate", 21, () -> x.truncate(21));
            due("truncate", 1, () -> x.truncate(1));
            due("truncate", 0, () -> x.truncate(0));
        });
        promise(3, "Throws `IllegalArgumentException` if the length is out of that range", () -> {
            for (int length : new int[] {-1, 18, 900, 901, LEAST, GREATEST}) {
                CrankCalculator x = filledTo(17);
                String before = whole(x);
                dueThrow("truncate(" + length + ")", ARGUMENT, () -> x.truncate(length));
                dueText("changes nothing", before, whole(x));
                dueLength("truncate(" + length + ")", 17, x);
            }
            dueThrow("1 of 0", ARGUMENT, () -> filledTo(0).truncate(1));
            dueThrow("901 of 900", ARGUMENT, () -> filledTo(900).truncate(901));
        });
    }
}
