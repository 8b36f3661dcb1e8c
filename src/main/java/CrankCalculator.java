import java.util.Arrays;
import java.util.NoSuchElementException;

/** A mechanical calculator with a crank; the document's numbered promises say what each method does. */
public final class CrankCalculator {
    public static final int NONE = -1;

    private static final long[] POWERS_OF_TEN = {
        1L, 10L, 100L, 1000L, 10000L, 100000L, 1000000L, 10000000L, 100000000L, 1000000000L, 10000000000L,
        100000000000L, 1000000000000L, 10000000000000L, 100000000000000L, 1000000000000000L, 10000000000000000L
    };
    private static final int SLOTS = 2;
    private static final int MOST_SHOWN = 48;

    private final Machine machine = new Machine();
    private final Machine scratch = new Machine();
    private final History history = new History();
    private final Machine[] slots = new Machine[SLOTS];
    private final boolean[] isSaved = new boolean[SLOTS];
    private final Multiplication multiplication = new Multiplication();
    private final Input input = new Input();
    private final Tokens tokens = new Tokens(input);
    private final SetupReader setupReader = new SetupReader(tokens);
    private final Script commands = new Script(tokens);
    private final byte[] shown = new byte[MOST_SHOWN];
    private int shownLength = 0;

    public CrankCalculator() {
        for (int slot = 0; slot < SLOTS; slot++) {
            slots[slot] = new Machine();
        }
    }

    public int append(int a, int b, int c, int d, int e) throws IllegalStateException {
        if (input.length > Input.CAPACITY - Input.APPENDED) {
            throw new IllegalStateException("the buffer would be too long");
        }
        input.addNumber(a);
        input.addNumber(b);
        input.addNumber(c);
        input.addNumber(d);
        input.addNumber(e);
        return input.length;
    }

    public int truncate(int length) throws IllegalArgumentException {
        if (length < 0 || length > input.length) {
            throw new IllegalArgumentException("no such length");
        }
        input.length = length;
        return length;
    }

    public int setup() {
        boolean isSound = setupReader.readInto(scratch);
        input.length = 0;
        if (!isSound) {
            return NONE;
        }
        machine.copyFrom(scratch);
        history.forgetAll();
        for (int slot = 0; slot < SLOTS; slot++) {
            isSaved[slot] = false;
        }
        return machine.wheelCount;
    }

    public int script() throws IllegalStateException {
        if (machine.turn.isJammed) {
            // the buffer is emptied whatever the result, also when the call throws
            input.length = 0;
            throw new IllegalStateException("the machine is jammed");
        }
        boolean isSound = commands.readFor(machine);
        input.length = 0;
        if (!isSound) {
            return NONE;
        }
        history.keep(machine);
        return commands.runOn(machine, multiplication);
    }

    public int errorCode() {
        return tokens.errorCode;
    }

    public int errorPosition() {
        return tokens.errorPosition;
    }

    public int setPin(int pin, int digit)
            throws IndexOutOfBoundsException, IllegalArgumentException, IllegalStateException {
        requirePin(pin);
        if (digit < 0 || digit > 9) {
            throw new IllegalArgumentException("no digit");
        }
        requireNoJam();
        history.keep(machine);
        int previous = machine.pins[pin];
        machine.pins[pin] = digit;
        return previous;
    }

    public int setPins(int number) throws IllegalArgumentException, IllegalStateException {
        if (number < 0 || number > machine.greatestPinNumber()) {
            throw new IllegalArgumentException("more digits than pins");
        }
        requireNoJam();
        history.keep(machine);
        int previous = machine.pinNumber();
        machine.putPins(number);
        return previous;
    }

    public int turn(int turns) throws IllegalArgumentException, IllegalStateException {
        requireTurns(turns);
        requireNoJam();
        history.keep(machine);
        return machine.crankTimes(turns);
    }

    public int shift(int steps) throws IllegalStateException, IllegalArgumentException {
        requireNoJam();
        // long, as the greatest int may be asked for
        long position = (long) machine.carriage + steps;
        if (position < 0 || position > machine.highestPosition()) {
            throw new IllegalArgumentException("no such position");
        }
        history.keep(machine);
        machine.carriage = (int) position;
        return machine.carriage;
    }

    public int clear(int what) throws IllegalArgumentException, IllegalStateException {
        if (what < Machine.ALL || what > Machine.PINS) {
            throw new IllegalArgumentException("nothing such to clear");
        }
        requireNoJam();
        history.keep(machine);
        return machine.clearPart(what);
    }

    public int multiply(int number, boolean isShort) throws IllegalArgumentException, IllegalStateException {
        requireFactor(number);
        requireNoJam();
        multiplication.plan(number, isShort);
        if (!multiplication.fits(machine)) {
            throw new IllegalStateException("the highest position needed does not exist");
        }
        history.keep(machine);
        return multiplication.runOn(machine);
    }

    public int divide() throws IllegalStateException {
        requireNoJam();
        if (machine.pinNumber() == 0) {
            throw new IllegalStateException("all pins are 0");
        }
        history.keep(machine);
        return machine.divideByPins();
    }

    public int transfer() throws IllegalStateException {
        requireNoJam();
        history.keep(machine);
        return machine.transferBack();
    }

    public int crankBack() throws IllegalStateException {
        requireJam();
        history.keep(machine);
        return machine.takeBackTurn();
    }

    public int free() throws IllegalStateException {
        requireJam();
        history.keep(machine);
        return machine.freeAndGoOn() ? 1 : 0;
    }

    public int damage(int wheel, int fault)
            throws IndexOutOfBoundsException, IllegalArgumentException, IllegalStateException {
        requireWheel(wheel);
        if (fault != Machine.SLIPS && fault != Machine.STUCK) {
            throw new IllegalArgumentException("no such fault");
        }
        requireNoJam();
        if (machine.hasFault(wheel, fault)) {
            throw new IllegalStateException("the wheel has this fault already");
        }
        history.keep(machine);
        machine.faults[wheel] |= fault;
        return machine.faultTotal();
    }

    public int repair(int wheel) throws IndexOutOfBoundsException, IllegalStateException {
        requireWheel(wheel);
        requireNoJam();
        history.keep(machine);
        int repaired = Integer.bitCount(machine.faults[wheel]);
        machine.faults[wheel] = 0;
        return repaired;
    }

    public int state(int what) throws IllegalArgumentException {
        switch (what) {
            case 0:
                return machine.pinCount;
            case 1:
                return machine.wheelCount;
            case 2:
                return machine.counterCount;
            case 3:
                return machine.reach;
            case 4:
                return machine.carriage;
            case 5:
                return machine.faultTotal();
            case 6:
                return machine.turn.isJammed ? 1 : 0;
            default:
                throw new IllegalArgumentException("no such number");
        }
    }

    public int count(int what) throws IllegalArgumentException {
        if (what < 0 || what >= Machine.COUNTS) {
            throw new IllegalArgumentException("no such count");
        }
        return machine.counts[what];
    }

    public int digit(int wheel) throws IndexOutOfBoundsException {
        requireWheel(wheel);
        return machine.digits[wheel];
    }

    public int counterDigit(int wheel) throws IndexOutOfBoundsException {
        if (wheel < 0 || wheel >= machine.counterCount) {
            throw new IndexOutOfBoundsException("no such counter wheel");
        }
        return machine.counterDigits[wheel];
    }

    public int pin(int pin) throws IndexOutOfBoundsException {
        requirePin(pin);
        return machine.pins[pin];
    }

    public long result() {
        return machine.resultNumber();
    }

    public int counter() {
        return machine.counterNumber();
    }

    public long complement() {
        return machine.modulus() - machine.resultNumber();
    }

    public int fault(int wheel) throws IndexOutOfBoundsException {
        requireWheel(wheel);
        return machine.faults[wheel];
    }

    public boolean isLeverSet(int wheel) throws IndexOutOfBoundsException {
        requireWheel(wheel);
        return machine.turn.levers[wheel];
    }

    public int jam(int what) throws IllegalStateException, IllegalArgumentException {
        requireJam();
        switch (what) {
            case 0:
                return machine.jammedWheel();
            case 1:
                return machine.turn.part;
            case 2:
                return machine.turn.direction;
            default:
                throw new IllegalArgumentException("no such number");
        }
    }

    public int steps(int wheel) throws IndexOutOfBoundsException {
        requireWheel(wheel);
        return machine.steps[wheel];
    }

    public int busiest() {
        return machine.busiestWheel();
    }

    public int logged(int index, int what) throws NoSuchElementException, IllegalArgumentException {
        if (index < 0 || index >= machine.log.size) {
            throw new NoSuchElementException("no such turn");
        }
        if (what < 0 || what >= TurnLog.ENTRY) {
            throw new IllegalArgumentException("no such number");
        }
        return machine.log.entry(index, what);
    }

    public int show() {
        shownLength = 0;
        int marked = machine.carriage + machine.pinCount - 1;
        for (int wheel = machine.wheelCount - 1; wheel >= 0; wheel--) {
            if (wheel == marked) {
                showByte('^');
            }
            showByte('0' + machine.digits[wheel]);
        }
        showByte(' ');
        for (int wheel = machine.counterCount - 1; wheel >= 0; wheel--) {
            showByte('0' + machine.counterDigits[wheel]);
        }
        showByte(' ');
        for (int pin = machine.pinCount - 1; pin >= 0; pin--) {
            showByte('0' + machine.pins[pin]);
        }
        if (machine.turn.isJammed) {
            showByte('!');
        }
        return shownLength;
    }

    public int textByte(int index) throws NoSuchElementException {
        if (index < 0 || index >= shownLength) {
            throw new NoSuchElementException("no such byte");
        }
        return shown[index];
    }

    public long dueResult() {
        return machine.due;
    }

    public boolean isRight() {
        return machine.resultNumber() == machine.due;
    }

    public int firstWrong() {
        for (int wheel = 0; wheel < machine.wheelCount; wheel++) {
            if (machine.isWrongAt(wheel)) {
                return wheel;
            }
        }
        return NONE;
    }

    public int wrongDigits() {
        int wrong = 0;
        for (int wheel = 0; wheel < machine.wheelCount; wheel++) {
            if (machine.isWrongAt(wheel)) {
                wrong++;
            }
        }
        return wrong;
    }

    public long error() {
        return machine.resultNumber() - machine.due;
    }

    public int residue() {
        int sum = 0;
        for (int wheel = 0; wheel < machine.wheelCount; wheel++) {
            sum += machine.digits[wheel];
        }
        return sum % 9;
    }

    public long resultAfter(int turns) throws IllegalArgumentException, IllegalStateException {
        requireTurns(turns);
        requireNoJam();
        scratch.copyFrom(machine);
        scratch.crankTimes(turns);
        return scratch.resultNumber();
    }

    public int movedBy(boolean isForward) throws IllegalStateException {
        requireNoJam();
        scratch.copyFrom(machine);
        scratch.crankTimes(directionOf(isForward));
        return scratch.turn.movedWheels();
    }

    public int ripple(boolean isForward) throws IllegalStateException {
        requireNoJam();
        scratch.copyFrom(machine);
        scratch.crankTimes(directionOf(isForward));
        return scratch.turn.longestRipple;
    }

    public int turnsToBell(boolean isForward, int most) throws IllegalArgumentException, IllegalStateException {
        if (most < 1 || most > 999) {
            throw new IllegalArgumentException("no such number of turns");
        }
        requireNoJam();
        scratch.copyFrom(machine);
        for (int turns = 1; turns <= most; turns++) {
            if (scratch.crankTimes(directionOf(isForward)) == 0) {
                return NONE;
            }
            if (scratch.turn.rings > 0) {
                return turns;
            }
        }
        return NONE;
    }

    public int turnsFor(int number, boolean isShort) throws IllegalArgumentException {
        requireFactor(number);
        multiplication.plan(number, isShort);
        return multiplication.turnTotal();
    }

    public float soundness() {
        int moved = machine.counts[Machine.CARRIES];
        int all = moved + machine.counts[Machine.LOST];
        if (all == 0) {
            return 1f;
        }
        return (float) moved / (float) all;
    }

    public int save(int slot) throws IllegalArgumentException {
        requireSlot(slot);
        slots[slot].copyFrom(machine);
        isSaved[slot] = true;
        return machine.carriage;
    }

    public int restore(int slot) throws IllegalArgumentException, IllegalStateException {
        requireSlot(slot);
        if (!isSaved[slot]) {
            throw new IllegalStateException("nothing is saved there");
        }
        history.keep(machine);
        machine.copyFrom(slots[slot]);
        return machine.carriage;
    }

    public int undo() throws IllegalStateException {
        if (history.size == 0) {
            throw new IllegalStateException("there is nothing to undo");
        }
        history.takeBack(machine);
        return history.size;
    }

    public int changeCount() {
        return history.size;
    }

    private void requireNoJam() {
        if (machine.turn.isJammed) {
            throw new IllegalStateException("the machine is jammed");
        }
    }

    private void requireJam() {
        if (!machine.turn.isJammed) {
            throw new IllegalStateException("the machine is not jammed");
        }
    }

    private void requireWheel(int wheel) {
        if (wheel < 0 || wheel >= machine.wheelCount) {
            throw new IndexOutOfBoundsException("no such wheel");
        }
    }

    private void requirePin(int pin) {
        if (pin < 0 || pin >= machine.pinCount) {
            throw new IndexOutOfBoundsException("no such pin");
        }
    }

    private static void requireTurns(int turns) {
        if (turns == 0 || turns < -99 || turns > 99) {
            throw new IllegalArgumentException("no such number of turns");
        }
    }

    private static void requireFactor(int number) {
        if (number < 0 || number > Multiplication.GREATEST) {
            throw new IllegalArgumentException("no such factor");
        }
    }

    private static void requireSlot(int slot) {
        if (slot < 0 || slot >= SLOTS) {
            throw new IllegalArgumentException("no such slot");
        }
    }

    private static int directionOf(boolean isForward) {
        return isForward ? OpenTurn.FORWARD : OpenTurn.BACK;
    }

    private void showByte(int value) {
        if (shownLength < MOST_SHOWN) {
            shown[shownLength] = (byte) value;
            shownLength++;
        }
    }

    /** All that changes alter: the parts with their digits, the counts, and the turn under way. */
    private static final class Machine {
        static final int MOST_PINS = 8;
        static final int MOST_WHEELS = 16;
        static final int MOST_COUNTER = 8;
        static final int MOST_REACH = 16;
        static final int COUNTS = 6;
        static final int TURNS = 0;
        static final int TURNS_BACK = 1;
        static final int RINGS = 2;
        static final int CARRIES = 3;
        static final int LOST = 4;
        static final int JAMS = 5;
        static final int SLIPS = 1;
        static final int STUCK = 2;
        static final int ALL = 0;
        static final int RESULT = 1;
        static final int COUNTER = 2;
        static final int PINS = 3;
        static final int TURNS_A_PLACE = 10;

        int pinCount;
        int wheelCount;
        int counterCount;
        int reach;
        int carriage;
        long due;
        final int[] pins = new int[MOST_PINS];
        final int[] digits = new int[MOST_WHEELS];
        final int[] counterDigits = new int[MOST_COUNTER];
        final int[] faults = new int[MOST_WHEELS];
        final int[] steps = new int[MOST_WHEELS];
        final int[] counts = new int[COUNTS];
        final TurnLog log = new TurnLog();
        final OpenTurn turn = new OpenTurn();

        Machine() {
            makeNew();
        }

        void makeNew() {
            pinCount = 4;
            wheelCount = 8;
            counterCount = 4;
            reach = MOST_REACH;
            carriage = 0;
            due = 0;
            Arrays.fill(pins, 0);
            Arrays.fill(digits, 0);
            Arrays.fill(counterDigits, 0);
            Arrays.fill(faults, 0);
            Arrays.fill(steps, 0);
            Arrays.fill(counts, 0);
            log.forgetAll();
            turn.begin(OpenTurn.FORWARD, false);
        }

        void copyFrom(Machine other) {
            pinCount = other.pinCount;
            wheelCount = other.wheelCount;
            counterCount = other.counterCount;
            reach = other.reach;
            carriage = other.carriage;
            due = other.due;
            System.arraycopy(other.pins, 0, pins, 0, MOST_PINS);
            System.arraycopy(other.digits, 0, digits, 0, MOST_WHEELS);
            System.arraycopy(other.counterDigits, 0, counterDigits, 0, MOST_COUNTER);
            System.arraycopy(other.faults, 0, faults, 0, MOST_WHEELS);
            System.arraycopy(other.steps, 0, steps, 0, MOST_WHEELS);
            System.arraycopy(other.counts, 0, counts, 0, COUNTS);
            log.copyFrom(other.log);
            turn.copyFrom(other.turn);
        }

        int highestPosition() {
            return wheelCount - pinCount;
        }

        long modulus() {
            return POWERS_OF_TEN[wheelCount];
        }

        int greatestPinNumber() {
            return (int) (POWERS_OF_TEN[pinCount] - 1);
        }

        long resultNumber() {
            return numberOf(digits, wheelCount);
        }

        int counterNumber() {
            return (int) numberOf(counterDigits, counterCount);
        }

        int pinNumber() {
            return (int) numberOf(pins, pinCount);
        }

        void putPins(int number) {
            int rest = number;
            for (int pin = 0; pin < pinCount; pin++) {
                pins[pin] = rest % 10;
                rest /= 10;
            }
        }

        boolean hasFault(int wheel, int fault) {
            return (faults[wheel] & fault) != 0;
        }

        int faultTotal() {
            int total = 0;
            for (int wheel = 0; wheel < wheelCount; wheel++) {
                total += Integer.bitCount(faults[wheel]);
            }
            return total;
        }

        int busiestWheel() {
            int busiest = 0;
            for (int wheel = 1; wheel < wheelCount; wheel++) {
                if (steps[wheel] > steps[busiest]) {
                    busiest = wheel;
                }
            }
            return busiest;
        }

        boolean isWrongAt(int wheel) {
            return digits[wheel] != due / POWERS_OF_TEN[wheel] % 10;
        }

        /** Shifts the carriage, but not past its ends. */
        void shiftAtMost(int distance) {
            carriage = Math.max(0, Math.min(carriage + distance, highestPosition()));
        }

        int clearPart(int what) {
            int cleared = 0;
            if (what == ALL || what == RESULT) {
                cleared += clearDigits(digits);
                due = 0;
            }
            if (what == ALL || what == COUNTER) {
                cleared += clearDigits(counterDigits);
            }
            if (what == ALL || what == PINS) {
                cleared += clearDigits(pins);
            }
            return cleared;
        }

        int transferBack() {
            for (int pin = 0; pin < pinCount; pin++) {
                pins[pin] = digits[carriage + pin];
            }
            clearPart(RESULT);
            return pinNumber();
        }

        /** Answers how many of the turns were finished; turns below 0 are turns back. */
        int crankTimes(int turns) {
            int direction = turns < 0 ? OpenTurn.BACK : OpenTurn.FORWARD;
            int asked = turns < 0 ? -turns : turns;
            for (int finished = 0; finished < asked; finished++) {
                turn.begin(direction, false);
                if (!goOn()) {
                    return finished;
                }
            }
            return asked;
        }

        int divideByPins() {
            int finished = 0;
            for (int position = highestPosition(); position >= 0; position--) {
                carriage = position;
                finished += divideHere();
                if (turn.isJammed) {
                    return finished;
                }
            }
            return finished;
        }

        private int divideHere() {
            int finished = 0;
            boolean hasRung = false;
            while (finished < TURNS_A_PLACE && !hasRung) {
                turn.begin(OpenTurn.BACK, true);
                if (!goOn()) {
                    return finished;
                }
                finished++;
                hasRung = turn.rings > 0;
            }
            if (hasRung) {
                turn.begin(OpenTurn.FORWARD, true);
                finished += goOn() ? 1 : 0;
            }
            return finished;
        }

        int takeBackTurn() {
            int movedWheels = turn.movedWheels();
            for (int wheel = 0; wheel < wheelCount; wheel++) {
                int moved = turn.moved[wheel];
                digits[wheel] = Math.floorMod(digits[wheel] - turn.direction * moved, 10);
                // the way back wears the wheel as the way forth did
                steps[wheel] += moved;
            }
            counts[RINGS] -= turn.rings;
            counts[CARRIES] -= turn.carries;
            counts[LOST] -= turn.lost;
            turn.begin(OpenTurn.FORWARD, false);
            return movedWheels;
        }

        boolean freeAndGoOn() {
            faults[jammedWheel()] &= ~STUCK;
            turn.isJammed = false;
            return goOn();
        }

        int jammedWheel() {
            return turn.part == OpenTurn.PIN_PART ? carriage + turn.place : turn.place + 1;
        }

        /** Answers whether the turn was finished; if not, it is jammed. */
        private boolean goOn() {
            if (turn.part == OpenTurn.PIN_PART && !movePins()) {
                return false;
            }
            if (!releaseLevers()) {
                return false;
            }
            finishTurn();
            return true;
        }

        private boolean movePins() {
            while (turn.place < pinCount) {
                int digit = pins[turn.place];
                if (digit > 0 && !move(carriage + turn.place, digit)) {
                    return false;
                }
                turn.place++;
            }
            turn.part = OpenTurn.LEVER_PART;
            turn.place = carriage;
            return true;
        }

        private boolean releaseLevers() {
            int highestInReach = carriage + pinCount - 1 + reach;
            while (turn.place < wheelCount) {
                int wheel = turn.place;
                if (!turn.levers[wheel]) {
                    turn.ripple = 0;
                } else if (wheel == wheelCount - 1) {
                    turn.rings++;
                    counts[RINGS]++;
                } else if (hasFault(wheel, SLIPS) || wheel + 1 > highestInReach) {
                    turn.ripple = 0;
                    turn.lost++;
                    counts[LOST]++;
                } else if (move(wheel + 1, 1)) {
                    turn.addCarry();
                    counts[CARRIES]++;
                } else {
                    return false;
                }
                turn.levers[wheel] = false;
                turn.place++;
            }
            return true;
        }

        /** Answers false, and jams the turn, if the wheel is stuck. */
        private boolean move(int wheel, int distance) {
            if (hasFault(wheel, STUCK)) {
                turn.isJammed = true;
                counts[JAMS]++;
                return false;
            }
            int reached = digits[wheel] + turn.direction * distance;
            if (reached < 0 || reached > 9) {
                turn.levers[wheel] = true;
            }
            digits[wheel] = (reached + 10) % 10;
            turn.moved[wheel] += distance;
            steps[wheel] += distance;
            return true;
        }

        private void finishTurn() {
            int number = pinNumber();
            due = Math.floorMod(due + turn.direction * (number * POWERS_OF_TEN[carriage]), modulus());
            moveCounter(turn.isDividing ? -turn.direction : turn.direction);
            counts[TURNS]++;
            if (turn.direction == OpenTurn.BACK) {
                counts[TURNS_BACK]++;
            }
            log.add(turn.direction, carriage, number, turn.rings);
        }

        private void moveCounter(int direction) {
            boolean passes = true;
            for (int wheel = carriage; wheel < counterCount && passes; wheel++) {
                int reached = counterDigits[wheel] + direction;
                passes = reached < 0 || reached > 9;
                counterDigits[wheel] = (reached + 10) % 10;
            }
        }

        private static int clearDigits(int[] row) {
            int cleared = 0;
            for (int index = 0; index < row.length; index++) {
                if (row[index] != 0) {
                    row[index] = 0;
                    cleared++;
                }
            }
            return cleared;
        }

        private static long numberOf(int[] row, int length) {
            long number = 0;
            for (int index = length - 1; index >= 0; index--) {
                number = number * 10 + row[index];
            }
            return number;
        }
    }

    /** The latest turn: where it stands while it is jammed, and what it has done. */
    private static final class OpenTurn {
        static final int FORWARD = 1;
        static final int BACK = -1;
        static final int PIN_PART = 0;
        static final int LEVER_PART = 1;

        boolean isJammed;
        boolean isDividing;
        int direction;
        int part;
        /** The pin in the first part, the wheel with the lever in the second. */
        int place;
        int rings;
        int carries;
        int lost;
        int ripple;
        int longestRipple;
        final boolean[] levers = new boolean[Machine.MOST_WHEELS];
        final int[] moved = new int[Machine.MOST_WHEELS];

        void begin(int newDirection, boolean divides) {
            isJammed = false;
            isDividing = divides;
            direction = newDirection;
            part = PIN_PART;
            place = 0;
            rings = 0;
            carries = 0;
            lost = 0;
            ripple = 0;
            longestRipple = 0;
            for (int wheel = 0; wheel < Machine.MOST_WHEELS; wheel++) {
                levers[wheel] = false;
                moved[wheel] = 0;
            }
        }

        void copyFrom(OpenTurn other) {
            isJammed = other.isJammed;
            isDividing = other.isDividing;
            direction = other.direction;
            part = other.part;
            place = other.place;
            rings = other.rings;
            carries = other.carries;
            lost = other.lost;
            ripple = other.ripple;
            longestRipple = other.longestRipple;
            for (int wheel = 0; wheel < Machine.MOST_WHEELS; wheel++) {
                levers[wheel] = other.levers[wheel];
                moved[wheel] = other.moved[wheel];
            }
        }

        void addCarry() {
            carries++;
            ripple++;
            if (ripple > longestRipple) {
                longestRipple = ripple;
            }
        }

        int movedWheels() {
            int wheels = 0;
            for (int wheel = 0; wheel < Machine.MOST_WHEELS; wheel++) {
                if (moved[wheel] > 0) {
                    wheels++;
                }
            }
            return wheels;
        }
    }

    /** The latest finished turns, in a ring of entries of four numbers each. */
    private static final class TurnLog {
        static final int KEPT = 30;
        static final int ENTRY = 4;

        int size;
        private int oldest;
        private final int[] entries = new int[KEPT * ENTRY];

        void forgetAll() {
            size = 0;
            oldest = 0;
        }

        void copyFrom(TurnLog other) {
            size = other.size;
            oldest = other.oldest;
            System.arraycopy(other.entries, 0, entries, 0, KEPT * ENTRY);
        }

        void add(int direction, int position, int number, int rings) {
            int first = (oldest + size) % KEPT * ENTRY;
            entries[first] = direction;
            entries[first + 1] = position;
            entries[first + 2] = number;
            entries[first + 3] = rings;
            if (size < KEPT) {
                size++;
            } else {
                oldest = (oldest + 1) % KEPT;
            }
        }

        int entry(int index, int what) {
            return entries[(oldest + index) % KEPT * ENTRY + what];
        }
    }

    /** The machine as it was before each of the latest changes, in a ring. */
    private static final class History {
        static final int KEPT = 12;

        int size = 0;
        private int next = 0;
        private final Machine[] earlier = new Machine[KEPT];

        History() {
            for (int i = 0; i < KEPT; i++) {
                earlier[i] = new Machine();
            }
        }

        void forgetAll() {
            size = 0;
        }

        void keep(Machine machine) {
            earlier[next].copyFrom(machine);
            next = (next + 1) % KEPT;
            if (size < KEPT) {
                size++;
            }
        }

        void takeBack(Machine machine) {
            next = (next + KEPT - 1) % KEPT;
            machine.copyFrom(earlier[next]);
            size--;
        }
    }

    /** How many turns multiplying makes at each position. */
    private static final class Multiplication {
        static final int GREATEST = 999999;
        /** Six digits, and one more behind them on the short way. */
        static final int MOST_PLACES = 7;

        private int places = 0;
        private final int[] turns = new int[MOST_PLACES];

        void plan(int number, boolean isShort) {
            int rest = number;
            int carry = 0;
            places = 0;
            while (places < MOST_PLACES && rest + carry > 0) {
                int sum = rest % 10 + carry;
                carry = isShort && sum >= 6 ? 1 : 0;
                turns[places] = sum - 10 * carry;
                rest /= 10;
                places++;
            }
        }

        boolean fits(Machine machine) {
            return places - 1 <= machine.highestPosition();
        }

        int turnTotal() {
            int total = 0;
            for (int place = 0; place < places; place++) {
                total += Math.abs(turns[place]);
            }
            return total;
        }

        int runOn(Machine machine) {
            int finished = 0;
            machine.carriage = 0;
            for (int place = 0; place < places; place++) {
                machine.carriage = place;
                finished += machine.crankTimes(turns[place]);
                if (machine.turn.isJammed) {
                    return finished;
                }
            }
            return finished;
        }
    }

    /** The input buffer. */
    private static final class Input {
        static final int CAPACITY = 900;
        static final int APPENDED = 20;

        int length = 0;
        private final byte[] bytes = new byte[CAPACITY];

        void addNumber(int number) {
            addByte(number >> 24);
            addByte(number >> 16);
            addByte(number >> 8);
            addByte(number);
        }

        private void addByte(int value) {
            if (length < CAPACITY) {
                bytes[length] = (byte) value;
                length++;
            }
        }

        int byteAt(int index) {
            return index >= 0 && index < length ? bytes[index] : 0;
        }
    }

    /** Walks over the tokens of the buffer, and keeps the error that was found in it. */
    private static final class Tokens {
        static final int SYNTAX = 1;
        static final int RANGE = 2;
        static final int REPEATED = 3;
        static final int LIMIT = 4;
        private static final int LONGEST = 8;
        private static final int END = 0;
        private static final int WORD = 1;
        private static final int NUMBER = 2;
        private static final int SIGN = 3;
        private static final int INVALID = 4;

        int errorCode = 0;
        int errorPosition = NONE;
        private final Input input;
        private int kind = END;
        private int start = 0;
        private int end = 0;
        private int number = 0;

        Tokens(Input input) {
            this.input = input;
        }

        void begin() {
            errorCode = 0;
            errorPosition = NONE;
            end = 0;
            advance();
        }

        void advance() {
            start = end;
            while (start < input.length && isBlank(input.byteAt(start))) {
                start++;
            }
            end = start;
            if (start >= input.length) {
                kind = END;
            } else if (isLetter(input.byteAt(start))) {
                readWord();
            } else if (isDigit(input.byteAt(start))) {
                readNumber();
            } else {
                kind = SIGN;
                end = start + 1;
            }
        }

        boolean isAtEnd() {
            return kind == END;
        }

        boolean isNumber() {
            return kind == NUMBER;
        }

        int number() {
            return number;
        }

        boolean isSign(char sign) {
            return kind == SIGN && input.byteAt(start) == sign;
        }

        boolean isWord(String word) {
            if (kind != WORD || end - start != word.length()) {
                return false;
            }
            for (int i = 0; i < word.length(); i++) {
                if (input.byteAt(start + i) != word.charAt(i)) {
                    return false;
                }
            }
            return true;
        }

        /** Notes an error of the token; answers false, as the reading ends with it. */
        boolean fail(int code) {
            errorCode = code;
            errorPosition = start;
            return false;
        }

        /** Goes behind the sign that ends a statement. */
        boolean readEnd() {
            if (!isSign(';')) {
                return fail(SYNTAX);
            }
            advance();
            return true;
        }

        /** Looks at the number, but does not go behind it. */
        boolean checkNumber(int least, int most) {
            if (!isNumber()) {
                return fail(SYNTAX);
            }
            if (number < least || number > most) {
                return fail(RANGE);
            }
            return true;
        }

        private void readWord() {
            while (end < input.length && isLetter(input.byteAt(end))) {
                end++;
            }
            kind = end - start > LONGEST ? INVALID : WORD;
        }

        private void readNumber() {
            number = 0;
            while (end < input.length && isDigit(input.byteAt(end))) {
                // may wrap around in a token that is too long, which is invalid anyway
                number = number * 10 + (input.byteAt(end) - '0');
                end++;
            }
            kind = end - start > LONGEST ? INVALID : NUMBER;
        }

        private static boolean isBlank(int value) {
            return value == 32 || value == 10;
        }

        private static boolean isLetter(int value) {
            return value >= 'a' && value <= 'z';
        }

        private static boolean isDigit(int value) {
            return value >= '0' && value <= '9';
        }
    }

    /** Reads a setup into a machine that is not used yet. */
    private static final class SetupReader {
        private static final int PINS = 0;
        private static final int WHEELS = 1;
        private static final int COUNTER = 2;
        private static final int REACH = 3;
        private static final int SLIP = 4;
        private static final int STUCK = 5;
        private static final int KINDS = 6;

        private final Tokens tokens;
        private final boolean[] isTold = new boolean[KINDS];

        SetupReader(Tokens tokens) {
            this.tokens = tokens;
        }

        boolean readInto(Machine plan) {
            plan.makeNew();
            for (int kind = 0; kind < KINDS; kind++) {
                isTold[kind] = false;
            }
            tokens.begin();
            for (int i = 0; i < Input.CAPACITY && !tokens.isAtEnd(); i++) {
                if (!readStatement(plan)) {
                    return false;
                }
            }
            return true;
        }

        private boolean readStatement(Machine plan) {
            int kind = kindOfToken();
            if (kind == NONE) {
                return tokens.fail(Tokens.SYNTAX);
            }
            if (comesTooLate(kind)) {
                return tokens.fail(Tokens.REPEATED);
            }
            tokens.advance();
            if (!tokens.checkNumber(leastOf(kind, plan), mostOf(kind, plan))) {
                return false;
            }
            if (isFault(kind) && plan.hasFault(tokens.number(), faultOf(kind))) {
                return tokens.fail(Tokens.REPEATED);
            }
            isTold[kind] = true;
            put(kind, tokens.number(), plan);
            tokens.advance();
            return tokens.readEnd();
        }

        private int kindOfToken() {
            if (tokens.isWord("pins")) {
                return PINS;
            }
            if (tokens.isWord("wheels")) {
                return WHEELS;
            }
            if (tokens.isWord("counter")) {
                return COUNTER;
            }
            if (tokens.isWord("reach")) {
                return REACH;
            }
            if (tokens.isWord("slip")) {
                return SLIP;
            }
            return tokens.isWord("stuck") ? STUCK : NONE;
        }

        private boolean comesTooLate(int kind) {
            if (isFault(kind)) {
                return false;
            }
            boolean isSize = kind == PINS || kind == WHEELS;
            return isTold[kind] || isSize && (isTold[SLIP] || isTold[STUCK]);
        }

        private static boolean isFault(int kind) {
            return kind == SLIP || kind == STUCK;
        }

        private static int faultOf(int kind) {
            return kind == SLIP ? Machine.SLIPS : Machine.STUCK;
        }

        private static int leastOf(int kind, Machine plan) {
            switch (kind) {
                case PINS:
                case COUNTER:
                    return 2;
                case WHEELS:
                    return plan.pinCount;
                default:
                    return 0;
            }
        }

        private static int mostOf(int kind, Machine plan) {
            switch (kind) {
                case PINS:
                    return Math.min(Machine.MOST_PINS, plan.wheelCount);
                case WHEELS:
                    return Machine.MOST_WHEELS;
                case COUNTER:
                    return Machine.MOST_COUNTER;
                case REACH:
                    return Machine.MOST_REACH;
                default:
                    return plan.wheelCount - 1;
            }
        }

        private static void put(int kind, int number, Machine plan) {
            switch (kind) {
                case PINS:
                    plan.pinCount = number;
                    break;
                case WHEELS:
                    plan.wheelCount = number;
                    break;
                case COUNTER:
                    plan.counterCount = number;
                    break;
                case REACH:
                    plan.reach = number;
                    break;
                default:
                    plan.faults[number] |= faultOf(kind);
                    break;
            }
        }
    }

    /** The commands of a script, which are all read before the first one is done. */
    private static final class Script {
        private static final int MOST = 40;
        private static final int SET = 0;
        private static final int TURN = 1;
        private static final int SHIFT = 2;
        private static final int CLEAR = 3;
        private static final int TIMES = 4;
        private static final int DIVIDE = 5;

        private final Tokens tokens;
        private int size = 0;
        private final int[] kinds = new int[MOST];
        private final int[] numbers = new int[MOST];
        private final boolean[] isShort = new boolean[MOST];

        Script(Tokens tokens) {
            this.tokens = tokens;
        }

        boolean readFor(Machine machine) {
            size = 0;
            tokens.begin();
            for (int i = 0; i < Input.CAPACITY && !tokens.isAtEnd(); i++) {
                if (!readCommand(machine)) {
                    return false;
                }
            }
            return true;
        }

        private boolean readCommand(Machine machine) {
            int kind = kindOfToken();
            if (kind == NONE) {
                return tokens.fail(Tokens.SYNTAX);
            }
            if (size >= MOST) {
                return tokens.fail(Tokens.LIMIT);
            }
            kinds[size] = kind;
            tokens.advance();
            if (kind == CLEAR) {
                readPart();
            } else if (kind != DIVIDE && !readNumber(kind, machine)) {
                return false;
            }
            size++;
            return tokens.readEnd();
        }

        private int kindOfToken() {
            if (tokens.isWord("set")) {
                return SET;
            }
            if (tokens.isWord("turn")) {
                return TURN;
            }
            if (tokens.isWord("shift")) {
                return SHIFT;
            }
            if (tokens.isWord("clear")) {
                return CLEAR;
            }
            if (tokens.isWord("times")) {
                return TIMES;
            }
            return tokens.isWord("divide") ? DIVIDE : NONE;
        }

        private boolean readNumber(int kind, Machine machine) {
            boolean isNegative = (kind == TURN || kind == SHIFT) && tokens.isSign('-');
            if (isNegative) {
                tokens.advance();
            }
            if (!tokens.checkNumber(kind == TURN ? 1 : 0, mostOf(kind, machine))) {
                return false;
            }
            numbers[size] = isNegative ? -tokens.number() : tokens.number();
            tokens.advance();
            isShort[size] = kind == TIMES && tokens.isWord("short");
            if (isShort[size]) {
                tokens.advance();
            }
            return true;
        }

        private static int mostOf(int kind, Machine machine) {
            switch (kind) {
                case SET:
                    return machine.greatestPinNumber();
                case TURN:
                    return 99;
                case SHIFT:
                    return 16;
                default:
                    return Multiplication.GREATEST;
            }
        }

        private void readPart() {
            int part = Machine.ALL;
            if (tokens.isWord("result")) {
                part = Machine.RESULT;
            } else if (tokens.isWord("counter")) {
                part = Machine.COUNTER;
            } else if (tokens.isWord("pins")) {
                part = Machine.PINS;
            }
            numbers[size] = part;
            if (part != Machine.ALL) {
                tokens.advance();
            }
        }

        /** Answers how many commands were done to their ends. */
        int runOn(Machine machine, Multiplication multiplication) {
            for (int command = 0; command < size; command++) {
                int number = numbers[command];
                switch (kinds[command]) {
                    case SET:
                        machine.putPins(number);
                        break;
                    case TURN:
                        machine.crankTimes(number);
                        break;
                    case SHIFT:
                        machine.shiftAtMost(number);
                        break;
                    case CLEAR:
                        machine.clearPart(number);
                        break;
                    case TIMES:
                        multiplication.plan(number, isShort[command]);
                        if (!multiplication.fits(machine)) {
                            return command;
                        }
                        multiplication.runOn(machine);
                        break;
                    default:
                        if (machine.pinNumber() == 0) {
                            return command;
                        }
                        machine.divideByPins();
                        break;
                }
                if (machine.turn.isJammed) {
                    return command;
                }
            }
            return size;
        }
    }
}
