import java.math.BigInteger;
import java.util.ArrayDeque;
import java.util.ArrayList;
import java.util.Deque;
import java.util.HashSet;
import java.util.List;
import java.util.NoSuchElementException;
import java.util.Set;
import java.util.regex.Matcher;
import java.util.regex.Pattern;

/**
 * A second machine for the tests, written in another way than the class: whole states are copied, wheels move
 * step by step, and a jammed turn that goes on is played anew from its start.
 */
final class SlowModel {
    static final int NONE = -1;

    /** Everything that changes alter. */
    private static final class State {
        int n = 4;
        int m = 8;
        int k = 4;
        int reach = 16;
        int c = 0;
        int[] pins = new int[8];
        int[] digits = new int[16];
        int[] counter = new int[8];
        boolean[] slips = new boolean[16];
        boolean[] stuck = new boolean[16];
        int[] steps = new int[16];
        int[] counts = new int[6];
        BigInteger due = BigInteger.ZERO;
        List<int[]> log = new ArrayList<>();
        Jam jam = null;

        State copy() {
            State s = new State();
            s.n = n;
            s.m = m;
            s.k = k;
            s.reach = reach;
            s.c = c;
            s.pins = pins.clone();
            s.digits = digits.clone();
            s.counter = counter.clone();
            s.slips = slips.clone();
            s.stuck = stuck.clone();
            s.steps = steps.clone();
            s.counts = counts.clone();
            s.due = due;
            s.log = new ArrayList<>(log);
            s.jam = jam;
            return s;
        }
    }

    /** Where a turn jams, and the machine before that turn. Never changed. */
    private record Jam(State before, boolean forward, boolean dividing, int wheel, int part, boolean[] levers,
            int[] moved) {
    }

    /** A turn as it was played: jammed is the wheel where it jams, or NONE. */
    private static final class Play {
        State after;
        int jammed = NONE;
        int part = 0;
        boolean[] levers = new boolean[16];
        int[] moved = new int[16];
        List<Integer> carriedFrom = new ArrayList<>();
        boolean rang = false;
    }

    private static final class TextError extends RuntimeException {
        private static final long serialVersionUID = 1L;
        final int code;
        final int position;

        TextError(int code, int position) {
            this.code = code;
            this.position = position;
        }
    }

    private record Token(String text, int at) {
    }

    private State s = new State();
    private final State[] slots = new State[2];
    private final Deque<State> undo = new ArrayDeque<>();
    private String buffer = "";
    private String text = "";
    private int errorCode = 0;
    private int errorPosition = NONE;

    // --- a turn

    private static boolean step(Play p, int wheel, boolean forward) {
        if (p.after.stuck[wheel]) {
            p.jammed = wheel;
            return false;
        }
        int[] d = p.after.digits;
        if (forward && d[wheel] == 9) {
            d[wheel] = 0;
            p.levers[wheel] = true;
        } else if (!forward && d[wheel] == 0) {
            d[wheel] = 9;
            p.levers[wheel] = true;
        } else {
            d[wheel] += forward ? 1 : -1;
        }
        p.moved[wheel]++;
        p.after.steps[wheel]++;
        return true;
    }

    private static Play play(State before, boolean forward) {
        Play p = new Play();
        p.after = before.copy();
        State a = p.after;
        for (int j = 0; j < a.n; j++) {
            for (int i = 0; i < a.pins[j]; i++) {
                if (!step(p, a.c + j, forward)) {
                    return p;
                }
            }
        }
        p.part = 1;
        for (int w = a.c; w < a.m; w++) {
            if (!p.levers[w]) {
                continue;
            }
            if (w == a.m - 1) {
                p.rang = true;
                a.counts[2]++;
            } else if (a.slips[w] || w + 1 > a.c + a.n - 1 + a.reach) {
                a.counts[4]++;
            } else if (step(p, w + 1, forward)) {
                a.counts[3]++;
                p.carriedFrom.add(w);
            } else {
                return p;
            }
            p.levers[w] = false;
        }
        return p;
    }

    private static void finish(Play p, boolean forward, boolean dividing) {
        State a = p.after;
        a.counts[0]++;
        a.counts[1] += forward ? 0 : 1;
        BigInteger product = BigInteger.valueOf(pinNumber(a)).multiply(BigInteger.TEN.pow(a.c));
        a.due = (forward ? a.due.add(product) : a.due.subtract(product)).mod(BigInteger.TEN.pow(a.m));
        if (a.c < a.k) {
            // the counter wheels from c on are one number to which 1 is added
            BigInteger upper = BigInteger.ZERO;
            for (int w = a.k - 1; w >= a.c; w--) {
                upper = upper.multiply(BigInteger.TEN).add(BigInteger.valueOf(a.counter[w]));
            }
            upper = upper.add(BigInteger.valueOf(forward != dividing ? 1 : -1)).mod(BigInteger.TEN.pow(a.k - a.c));
            for (int w = a.c; w < a.k; w++) {
                a.counter[w] = upper.mod(BigInteger.TEN).intValue();
                upper = upper.divide(BigInteger.TEN);
            }
        }
        a.log.add(new int[] {forward ? 1 : -1, a.c, pinNumber(a), p.rang ? 1 : 0});
        if (a.log.size() > 30) {
            a.log.remove(0);
        }
    }

    /** Answers whether the turn was finished; the state given stays as it is. */
    private static State turned(State before, boolean forward, boolean dividing) {
        Play p = play(before, forward);
        if (p.jammed == NONE) {
            finish(p, forward, dividing);
        } else {
            p.after.counts[5]++;
            p.after.jam = new Jam(before.copy(), forward, dividing, p.jammed, p.part, p.levers, p.moved);
        }
        return p.after;
    }

    private int turns(int turns, boolean forward, boolean dividing) {
        int done = 0;
        while (done < turns) {
            s = turned(s, forward, dividing);
            if (s.jam != null) {
                break;
            }
            done++;
        }
        return done;
    }

    // --- the buffer and its texts

    int append(int a, int b, int c, int d, int e) {
        if (buffer.length() + 20 > 900) {
            throw new IllegalStateException();
        }
        StringBuilder added = new StringBuilder();
        for (int number : new int[] {a, b, c, d, e}) {
            for (int i = 3; i >= 0; i--) {
                added.append((char) (number >>> 8 * i & 255));
            }
        }
        buffer += added;
        return buffer.length();
    }

    int truncate(int length) {
        if (length < 0 || length > buffer.length()) {
            throw new IllegalArgumentException();
        }
        buffer = buffer.substring(0, length);
        return length;
    }

    private static final Pattern TOKEN = Pattern.compile("[a-z]+|[0-9]+|[^ \n]", Pattern.DOTALL);

    private List<Token> tokens = new ArrayList<>();
    private int next = 0;

    private void tokenise() {
        tokens = new ArrayList<>();
        next = 0;
        Matcher m = TOKEN.matcher(buffer);
        while (m.find()) {
            tokens.add(new Token(m.group(), m.start()));
        }
        tokens.add(new Token("", buffer.length()));
    }

    private Token peek() {
        return tokens.get(next);
    }

    private boolean accept(String word) {
        if (peek().text.equals(word) && !word.isEmpty()) {
            next++;
            return true;
        }
        return false;
    }

    private TextError error(int code) {
        return new TextError(code, peek().at);
    }

    private int number(int least, int most) {
        if (!peek().text.matches("[0-9]{1,8}")) {
            throw error(1);
        }
        int number = Integer.parseInt(peek().text);
        if (number < least || number > most) {
            throw error(2);
        }
        return number;
    }

    private void end() {
        if (!accept(";")) {
            throw error(1);
        }
    }

    int setup() {
        tokenise();
        State made = new State();
        Set<String> told = new HashSet<>();
        try {
            while (!peek().text.isEmpty()) {
                setupStatement(made, told);
            }
        } catch (TextError e) {
            report(e.code, e.position);
            return NONE;
        }
        report(0, NONE);
        s = made;
        undo.clear();
        slots[0] = null;
        slots[1] = null;
        return s.m;
    }

    private void setupStatement(State made, Set<String> told) {
        String word = peek().text;
        if (!Set.of("pins", "wheels", "counter", "reach", "slip", "stuck").contains(word)) {
            throw error(1);
        }
        boolean isFault = word.equals("slip") || word.equals("stuck");
        boolean late = (word.equals("pins") || word.equals("wheels"))
            && (told.contains("slip") || told.contains("stuck"));
        if (late || !isFault && told.contains(word)) {
            throw error(3);
        }
        told.add(word);
        next++;
        switch (word) {
            case "pins" -> made.n = number(2, told.contains("wheels") ? Math.min(8, made.m) : 8);
            case "wheels" -> made.m = number(told.contains("pins") ? made.n : 4, 16);
            case "counter" -> made.k = number(2, 8);
            case "reach" -> made.reach = number(0, 16);
            default -> {
                boolean[] faults = word.equals("slip") ? made.slips : made.stuck;
                int wheel = number(0, made.m - 1);
                if (faults[wheel]) {
                    throw error(3);
                }
                faults[wheel] = true;
            }
        }
        next++;
        end();
    }

    private void report(int code, int position) {
        errorCode = code;
        errorPosition = position;
        buffer = "";
    }

    int script() {
        if (s.jam != null) {
            buffer = "";
            throw new IllegalStateException();
        }
        tokenise();
        List<String[]> commands = new ArrayList<>();
        try {
            while (!peek().text.isEmpty()) {
                commands.add(command(commands.size()));
            }
        } catch (TextError e) {
            report(e.code, e.position);
            return NONE;
        }
        report(0, NONE);
        change();
        int done = 0;
        for (String[] command : commands) {
            try {
                perform(command);
            } catch (RuntimeException e) {
                break;
            }
            if (s.jam != null) {
                break;
            }
            done++;
        }
        return done;
    }

    private String[] command(int before) {
        String word = peek().text;
        if (!Set.of("set", "turn", "shift", "clear", "times", "divide").contains(word)) {
            throw error(1);
        }
        if (before == 40) {
            throw error(4);
        }
        next++;
        String sign = "";
        if (word.equals("turn") || word.equals("shift")) {
            sign = accept("-") ? "-" : "";
        }
        String value = "0";
        switch (word) {
            case "set" -> value = "" + number(0, BigInteger.TEN.pow(s.n).intValue() - 1);
            case "turn" -> value = sign + number(1, 99);
            case "shift" -> value = sign + number(0, 16);
            case "times" -> value = "" + number(0, 999999);
            case "clear" -> value = accept("result") ? "1" : accept("counter") ? "2" : accept("pins") ? "3" : "0";
            default -> value = "0";
        }
        if (!word.equals("clear") && !word.equals("divide")) {
            next++;
        }
        String way = word.equals("times") && accept("short") ? "short" : "";
        end();
        return new String[] {word, value, way};
    }

    private void perform(String[] command) {
        int number = Integer.parseInt(command[1]);
        switch (command[0]) {
            case "set" -> setPinDigits(number);
            case "turn" -> turns(Math.abs(number), number > 0, false);
            case "shift" -> {
                s = s.copy();
                s.c = Math.max(0, Math.min(s.m - s.n, s.c + number));
            }
            case "clear" -> doClear(number);
            case "times" -> doMultiply(number, command[2].equals("short"));
            default -> doDivide();
        }
    }

    int errorCode() {
        return errorCode;
    }

    int errorPosition() {
        return errorPosition;
    }

    // --- working

    private void change() {
        undo.push(s.copy());
        if (undo.size() > 12) {
            undo.removeLast();
        }
    }

    private void noJam() {
        if (s.jam != null) {
            throw new IllegalStateException();
        }
    }

    private void withJam() {
        if (s.jam == null) {
            throw new IllegalStateException();
        }
    }

    private static void index(boolean holds) {
        if (!holds) {
            throw new IndexOutOfBoundsException();
        }
    }

    private static void argument(boolean holds) {
        if (!holds) {
            throw new IllegalArgumentException();
        }
    }

    private static int pinNumber(State a) {
        int number = 0;
        for (int j = a.n - 1; j >= 0; j--) {
            number = number * 10 + a.pins[j];
        }
        return number;
    }

    private void setPinDigits(int number) {
        s = s.copy();
        int rest = number;
        for (int j = 0; j < s.n; j++, rest /= 10) {
            s.pins[j] = rest % 10;
        }
    }

    int setPin(int pin, int digit) {
        index(pin >= 0 && pin < s.n);
        argument(digit >= 0 && digit <= 9);
        noJam();
        change();
        int previous = s.pins[pin];
        s.pins[pin] = digit;
        return previous;
    }

    int setPins(int number) {
        argument(number >= 0 && number < BigInteger.TEN.pow(s.n).intValue());
        noJam();
        change();
        int previous = pinNumber(s);
        setPinDigits(number);
        return previous;
    }

    int turn(int turns) {
        argument(turns != 0 && turns >= -99 && turns <= 99);
        noJam();
        change();
        return turns(Math.abs(turns), turns > 0, false);
    }

    int shift(int steps) {
        noJam();
        argument((long) s.c + steps >= 0 && (long) s.c + steps <= s.m - s.n);
        change();
        s.c += steps;
        return s.c;
    }

    private int doClear(int what) {
        s = s.copy();
        int cleared = 0;
        if (what == 0 || what == 1) {
            for (int w = 0; w < s.m; w++) {
                cleared += s.digits[w] == 0 ? 0 : 1;
            }
            s.digits = new int[16];
            s.due = BigInteger.ZERO;
        }
        if (what == 0 || what == 2) {
            for (int w = 0; w < s.k; w++) {
                cleared += s.counter[w] == 0 ? 0 : 1;
            }
            s.counter = new int[8];
        }
        if (what == 0 || what == 3) {
            for (int j = 0; j < s.n; j++) {
                cleared += s.pins[j] == 0 ? 0 : 1;
            }
            s.pins = new int[8];
        }
        return cleared;
    }

    int clear(int what) {
        argument(what >= 0 && what <= 3);
        noJam();
        change();
        return doClear(what);
    }

    /** The turns for each digit, the lowest first. */
    private static List<Integer> plan(int number, boolean isShort) {
        List<Integer> plan = new ArrayList<>();
        if (number == 0) {
            return plan;
        }
        String digits = new StringBuilder(String.valueOf(number)).reverse().toString();
        int carry = 0;
        for (char c : digits.toCharArray()) {
            int sum = c - '0' + carry;
            if (isShort && sum >= 6) {
                plan.add(-(10 - sum));
                carry = 1;
            } else {
                plan.add(sum);
                carry = 0;
            }
        }
        if (carry == 1) {
            plan.add(1);
        }
        return plan;
    }

    private int doMultiply(int number, boolean isShort) {
        List<Integer> plan = plan(number, isShort);
        if (plan.size() > s.m - s.n + 1) {
            throw new IllegalStateException();
        }
        int done = 0;
        s = s.copy();
        s.c = 0;
        for (int i = 0; i < plan.size() && s.jam == null; i++) {
            s = s.copy();
            s.c = i;
            done += turns(Math.abs(plan.get(i)), plan.get(i) > 0, false);
        }
        return done;
    }

    int multiply(int number, boolean isShort) {
        argument(number >= 0 && number <= 999999);
        noJam();
        if (plan(number, isShort).size() > s.m - s.n + 1) {
            throw new IllegalStateException();
        }
        change();
        return doMultiply(number, isShort);
    }

    private int doDivide() {
        if (pinNumber(s) == 0) {
            throw new IllegalStateException();
        }
        int done = 0;
        for (int c = s.m - s.n; c >= 0; c--) {
            s = s.copy();
            s.c = c;
            boolean rang = false;
            for (int i = 0; i < 10 && !rang; i++) {
                int rings = s.counts[2];
                if (turns(1, false, true) == 0) {
                    return done;
                }
                done++;
                rang = s.counts[2] > rings;
            }
            if (rang) {
                if (turns(1, true, true) == 0) {
                    return done;
                }
                done++;
            }
        }
        return done;
    }

    int divide() {
        noJam();
        if (pinNumber(s) == 0) {
            throw new IllegalStateException();
        }
        change();
        return doDivide();
    }

    int transfer() {
        noJam();
        change();
        int[] pins = new int[8];
        System.arraycopy(s.digits, s.c, pins, 0, s.n);
        doClear(1);
        s.pins = pins;
        return pinNumber(s);
    }

    int crankBack() {
        withJam();
        change();
        Jam jam = s.jam;
        State back = jam.before.copy();
        back.stuck = s.stuck.clone();
        back.counts[5] = s.counts[5];
        int wheels = 0;
        for (int w = 0; w < back.m; w++) {
            back.steps[w] += 2 * jam.moved[w];
            wheels += jam.moved[w] > 0 ? 1 : 0;
        }
        s = back;
        return wheels;
    }

    int free() {
        withJam();
        change();
        State again = s.jam.before.copy();
        again.stuck = s.stuck.clone();
        again.stuck[s.jam.wheel] = false;
        again.counts[5] = s.counts[5];
        s = turned(again, s.jam.forward, s.jam.dividing);
        return s.jam == null ? 1 : 0;
    }

    private int faults() {
        int faults = 0;
        for (int w = 0; w < 16; w++) {
            faults += (s.slips[w] ? 1 : 0) + (s.stuck[w] ? 1 : 0);
        }
        return faults;
    }

    int damage(int wheel, int fault) {
        index(wheel >= 0 && wheel < s.m);
        argument(fault == 1 || fault == 2);
        noJam();
        if ((fault == 1 ? s.slips : s.stuck)[wheel]) {
            throw new IllegalStateException();
        }
        change();
        (fault == 1 ? s.slips : s.stuck)[wheel] = true;
        return faults();
    }

    int repair(int wheel) {
        index(wheel >= 0 && wheel < s.m);
        noJam();
        change();
        int before = faults();
        s.slips[wheel] = false;
        s.stuck[wheel] = false;
        return before - faults();
    }

    // --- showing

    int state(int what) {
        argument(what >= 0 && what <= 6);
        return new int[] {s.n, s.m, s.k, s.reach, s.c, faults(), s.jam == null ? 0 : 1}[what];
    }

    int count(int what) {
        argument(what >= 0 && what <= 5);
        return s.counts[what];
    }

    int digit(int wheel) {
        index(wheel >= 0 && wheel < s.m);
        return s.digits[wheel];
    }

    int counterDigit(int wheel) {
        index(wheel >= 0 && wheel < s.k);
        return s.counter[wheel];
    }

    int pin(int pin) {
        index(pin >= 0 && pin < s.n);
        return s.pins[pin];
    }

    private static String word(int[] digits, int length) {
        StringBuilder text = new StringBuilder();
        for (int i = length - 1; i >= 0; i--) {
            text.append(digits[i]);
        }
        return text.toString();
    }

    private static long result(State a) {
        return Long.parseLong(word(a.digits, a.m));
    }

    long result() {
        return result(s);
    }

    int counter() {
        return Integer.parseInt(word(s.counter, s.k));
    }

    long complement() {
        return BigInteger.TEN.pow(s.m).longValue() - result();
    }

    int fault(int wheel) {
        index(wheel >= 0 && wheel < s.m);
        return (s.slips[wheel] ? 1 : 0) + (s.stuck[wheel] ? 2 : 0);
    }

    boolean isLeverSet(int wheel) {
        index(wheel >= 0 && wheel < s.m);
        return s.jam != null && s.jam.levers[wheel];
    }

    int jam(int what) {
        withJam();
        argument(what >= 0 && what <= 2);
        return new int[] {s.jam.wheel, s.jam.part, s.jam.forward ? 1 : -1}[what];
    }

    int steps(int wheel) {
        index(wheel >= 0 && wheel < s.m);
        return s.steps[wheel];
    }

    int busiest() {
        int busiest = s.m - 1;
        for (int w = s.m - 1; w >= 0; w--) {
            busiest = s.steps[w] >= s.steps[busiest] ? w : busiest;
        }
        return busiest;
    }

    int logged(int index, int what) {
        if (index < 0 || index >= s.log.size()) {
            throw new NoSuchElementException();
        }
        argument(what >= 0 && what <= 3);
        return s.log.get(index)[what];
    }

    int show() {
        String digits = word(s.digits, s.m);
        int mark = s.m - (s.c + s.n);
        text = digits.substring(0, mark) + "^" + digits.substring(mark) + " " + word(s.counter, s.k) + " "
            + word(s.pins, s.n) + (s.jam == null ? "" : "!");
        return text.length();
    }

    int textByte(int index) {
        if (index < 0 || index >= text.length()) {
            throw new NoSuchElementException();
        }
        return text.charAt(index);
    }

    // --- checks and predictions

    long dueResult() {
        return s.due.longValue();
    }

    boolean isRight() {
        return result() == dueResult();
    }

    private List<Integer> wrong() {
        String due = String.format("%0" + s.m + "d", dueResult());
        String is = word(s.digits, s.m);
        List<Integer> wrong = new ArrayList<>();
        for (int w = 0; w < s.m; w++) {
            if (due.charAt(s.m - 1 - w) != is.charAt(s.m - 1 - w)) {
                wrong.add(w);
            }
        }
        return wrong;
    }

    int firstWrong() {
        return wrong().isEmpty() ? NONE : wrong().get(0);
    }

    int wrongDigits() {
        return wrong().size();
    }

    long error() {
        return result() - dueResult();
    }

    int residue() {
        // the sum of the digits and the number itself leave the same rest
        return (int) (result() % 9);
    }

    long resultAfter(int turns) {
        argument(turns != 0 && turns >= -99 && turns <= 99);
        noJam();
        State a = s;
        for (int i = 0; i < Math.abs(turns) && a.jam == null; i++) {
            a = turned(a, turns > 0, false);
        }
        return result(a);
    }

    int movedBy(boolean isForward) {
        noJam();
        int wheels = 0;
        for (int moved : play(s, isForward).moved) {
            wheels += moved > 0 ? 1 : 0;
        }
        return wheels;
    }

    int ripple(boolean isForward) {
        noJam();
        List<Integer> from = play(s, isForward).carriedFrom;
        int longest = 0;
        for (int w : from) {
            int length = 0;
            while (from.contains(w + length)) {
                length++;
            }
            longest = Math.max(longest, length);
        }
        return longest;
    }

    int turnsToBell(boolean isForward, int most) {
        argument(most >= 1 && most <= 999);
        noJam();
        State a = s;
        for (int i = 1; i <= most; i++) {
            a = turned(a, isForward, false);
            if (a.jam != null) {
                return NONE;
            }
            if (a.counts[2] > s.counts[2]) {
                return i;
            }
        }
        return NONE;
    }

    int turnsFor(int number, boolean isShort) {
        argument(number >= 0 && number <= 999999);
        return plan(number, isShort).stream().mapToInt(Math::abs).sum();
    }

    float soundness() {
        float moved = s.counts[3];
        float lost = s.counts[4];
        return moved + lost == 0 ? 1 : moved / (moved + lost);
    }

    // --- saved states, undo

    int save(int slot) {
        argument(slot == 0 || slot == 1);
        slots[slot] = s.copy();
        return s.c;
    }

    int restore(int slot) {
        argument(slot == 0 || slot == 1);
        if (slots[slot] == null) {
            throw new IllegalStateException();
        }
        change();
        s = slots[slot].copy();
        return s.c;
    }

    int undo() {
        if (undo.isEmpty()) {
            throw new IllegalStateException();
        }
        s = undo.pop();
        return undo.size();
    }

    int changeCount() {
        return undo.size();
    }
}
