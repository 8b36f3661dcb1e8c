import java.nio.charset.StandardCharsets;
import java.util.Arrays;
import java.util.Random;
import java.util.function.LongSupplier;

/** Long runs of calls on the class and on the slow model; each answer must be the same. */
public final class ModelTest {
    private static final int RUNS = 300;
    private static final int CALLS = 500;
    private static final String[] SETUP_WORDS = {"pins", "wheels", "counter", "reach", "slip", "stuck"};
    private static final String[] OTHERS = {";", "-", " ", "\n", "short", "result", "counter", "pins", "5", "0",
        "turn", "slip", "123456789", "ninechars", "99999999", "A", "\u00e4", "\t", "^", "set 1;", "pins 5;"};

    private final Random random;
    private final CrankCalculator x = new CrankCalculator();
    private final SlowModel y = new SlowModel();
    private final StringBuilder run = new StringBuilder();
    private boolean isWrong = false;

    private ModelTest(long seed) {
        random = new Random(seed);
    }

    public static void main(String[] args) {
        int wrong = 0;
        for (int seed = 1; seed <= RUNS && wrong < 5; seed++) {
            wrong += new ModelTest(seed).isSame(seed) ? 0 : 1;
        }
        System.out.println(RUNS + " runs, " + wrong + " of them wrong");
        if (wrong > 0) {
            System.exit(1);
        }
    }

    private boolean isSame(int seed) {
        // some machines are jammed most of the time, others are never
        if (random.nextInt(3) > 0) {
            text(setupText());
            same("setup()", x::setup, y::setup);
        }
        for (int i = 0; i < CALLS && !isWrong; i++) {
            call();
            if (random.nextInt(4) == 0) {
                compareAll();
            }
        }
        if (isWrong) {
            System.out.println("seed " + seed + ":\n" + run);
        }
        return !isWrong;
    }

    private static String answer(LongSupplier call) {
        try {
            return String.valueOf(call.getAsLong());
        } catch (RuntimeException e) {
            return "throws." + e.getClass().getSimpleName();
        }
    }

    private void same(String call, LongSupplier real, LongSupplier model) {
        if (isWrong) {
            return;
        }
        String want = answer(model);
        String got = answer(real);
        run.append("  ").append(call).append(" -> ").append(got).append('\n');
        if (!want.equals(got)) {
            run.append("  due is ").append(want).append('\n');
            isWrong = true;
        }
    }

    private int upTo(int most) {
        return random.nextInt(most + 1);
    }

    /** Mostly from least to most, now and then beyond. */
    private int around(int least, int most) {
        switch (random.nextInt(24)) {
            case 0:
                return least - 1;
            case 1:
                return most + 1;
            case 2:
                return new int[] {Integer.MIN_VALUE, Integer.MAX_VALUE, -1, 0, 17}[random.nextInt(5)];
            case 3:
                return least;
            case 4:
                return most;
            default:
                return least + random.nextInt(most - least + 1);
        }
    }

    private int digits(int most) {
        int length = 1 + random.nextInt(most);
        StringBuilder number = new StringBuilder();
        for (int i = 0; i < length; i++) {
            // many zeros and nines, so that levers are set in rows
            number.append("0123456789099".charAt(random.nextInt(13)));
        }
        return Integer.parseInt(number.toString());
    }

    private int turns() {
        int turns = random.nextInt(3) == 0 ? around(1, 99) : around(1, 4);
        return random.nextBoolean() ? turns : -turns;
    }

    private void call() {
        boolean isJammed = y.state(6) == 1;
        if (isJammed && random.nextInt(2) == 0) {
            if (random.nextInt(3) == 0) {
                same("crankBack()", x::crankBack, y::crankBack);
            } else {
                same("free()", x::free, y::free);
            }
            return;
        }
        int kind = random.nextInt(24);
        if (kind < 12) {
            work(kind);
        } else if (kind < 16) {
            predict();
        } else {
            rest(kind);
        }
    }

    private void work(int kind) {
        int n = y.state(0);
        int m = y.state(1);
        switch (kind) {
            case 0: {
                int pin = around(0, n - 1);
                int digit = around(0, 9);
                same("setPin(" + pin + ", " + digit + ")", () -> x.setPin(pin, digit), () -> y.setPin(pin, digit));
                break;
            }
            case 1:
            case 2: {
                int number = random.nextInt(8) == 0 ? around(0, 99999999) : digits(n);
                same("setPins(" + number + ")", () -> x.setPins(number), () -> y.setPins(number));
                break;
            }
            case 3:
            case 4:
            case 5: {
                int turns = turns();
                same("turn(" + turns + ")", () -> x.turn(turns), () -> y.turn(turns));
                break;
            }
            case 6: {
                int steps = around(0, m - n) - (random.nextInt(16) == 0 ? 0 : y.state(4));
                same("shift(" + steps + ")", () -> x.shift(steps), () -> y.shift(steps));
                break;
            }
            case 7: {
                int what = random.nextInt(4) == 0 ? around(0, 3) : 2;
                same("clear(" + what + ")", () -> x.clear(what), () -> y.clear(what));
                break;
            }
            case 8: {
                int number = random.nextInt(4) == 0 ? around(0, 999999) : digits(1 + random.nextInt(6));
                boolean isShort = random.nextBoolean();
                same("multiply(" + number + ", " + isShort + ")", () -> x.multiply(number, isShort),
                    () -> y.multiply(number, isShort));
                break;
            }
            case 9:
                same("divide()", x::divide, y::divide);
                break;
            case 10:
                same("transfer()", x::transfer, y::transfer);
                break;
            default:
                faults(m);
                break;
        }
    }

    private void faults(int m) {
        int wheel = around(0, m - 1);
        int fault = random.nextInt(3) > 0 ? 1 : around(1, 2);
        if (random.nextInt(3) == 0) {
            same("damage(" + wheel + ", " + fault + ")", () -> x.damage(wheel, fault), () -> y.damage(wheel, fault));
        } else {
            same("repair(" + wheel + ")", () -> x.repair(wheel), () -> y.repair(wheel));
        }
    }

    private void predict() {
        boolean way = random.nextBoolean();
        switch (random.nextInt(5)) {
            case 0: {
                int turns = turns();
                same("resultAfter(" + turns + ")", () -> x.resultAfter(turns), () -> y.resultAfter(turns));
                break;
            }
            case 1:
                same("movedBy(" + way + ")", () -> x.movedBy(way), () -> y.movedBy(way));
                break;
            case 2:
                same("ripple(" + way + ")", () -> x.ripple(way), () -> y.ripple(way));
                break;
            case 3: {
                int most = random.nextInt(8) == 0 ? around(1, 999) : around(1, 30);
                same("turnsToBell(" + way + ", " + most + ")", () -> x.turnsToBell(way, most),
                    () -> y.turnsToBell(way, most));
                break;
            }
            default: {
                int number = random.nextInt(4) == 0 ? around(0, 999999) : digits(6);
                same("turnsFor(" + number + ", " + way + ")", () -> x.turnsFor(number, way),
                    () -> y.turnsFor(number, way));
                break;
            }
        }
    }

    private void rest(int kind) {
        int slot = random.nextInt(12) == 0 ? around(0, 1) : upTo(1);
        switch (kind) {
            case 16:
                same("save(" + slot + ")", () -> x.save(slot), () -> y.save(slot));
                break;
            case 17:
                same("restore(" + slot + ")", () -> x.restore(slot), () -> y.restore(slot));
                break;
            case 18:
            case 19: {
                int times = random.nextInt(5) == 0 ? 1 + random.nextInt(13) : 1;
                for (int i = 0; i < times; i++) {
                    same("undo()", x::undo, y::undo);
                }
                break;
            }
            case 20:
                if (random.nextInt(6) == 0) {
                    text(setupText());
                    same("setup()", x::setup, y::setup);
                } else {
                    int length = around(0, 900);
                    same("truncate(" + length + ")", () -> x.truncate(length), () -> y.truncate(length));
                }
                break;
            case 21:
            case 22:
                text(scriptText());
                same("script()", x::script, y::script);
                break;
            default:
                text(OTHERS[random.nextInt(OTHERS.length)]);
                break;
        }
    }

    private void text(String text) {
        byte[] bytes = text.getBytes(StandardCharsets.ISO_8859_1);
        byte[] padded = new byte[(bytes.length + 19) / 20 * 20];
        Arrays.fill(padded, (byte) 10);
        System.arraycopy(bytes, 0, padded, 0, bytes.length);
        run.append("  text \"").append(text).append("\"\n");
        for (int at = 0; at < padded.length; at += 20) {
            int a = Check.number(padded, at);
            int b = Check.number(padded, at + 4);
            int c = Check.number(padded, at + 8);
            int d = Check.number(padded, at + 12);
            int e = Check.number(padded, at + 16);
            same("append", () -> x.append(a, b, c, d, e), () -> y.append(a, b, c, d, e));
        }
    }

    /** Now and then puts something into the text that may be wrong there, or cuts it off. */
    private String spoiled(String text) {
        if (random.nextInt(3) > 0) {
            return text;
        }
        int at = upTo(text.length());
        if (random.nextInt(4) == 0) {
            return text.substring(0, at);
        }
        return text.substring(0, at) + OTHERS[random.nextInt(OTHERS.length)] + text.substring(at);
    }

    private String gap() {
        return new String[] {" ", " ", " ", "", "\n", "  "}[random.nextInt(6)];
    }

    private String setupText() {
        StringBuilder text = new StringBuilder();
        int[] least = {2, 4, 2, 0, 0, 0};
        int[] most = {8, 16, 8, 16, 7, 7};
        int statements = upTo(6);
        for (int i = 0; i < statements; i++) {
            int kind = random.nextInt(6);
            int number = random.nextInt(12) == 0 ? upTo(20) : least[kind] + upTo(most[kind] - least[kind]);
            if (kind == 3 && random.nextBoolean()) {
                number = upTo(3);
            }
            text.append(SETUP_WORDS[kind]).append(gap()).append(number).append(gap()).append(';').append(gap());
        }
        return spoiled(text.toString());
    }

    private String scriptText() {
        StringBuilder text = new StringBuilder();
        int commands = random.nextInt(10) == 0 ? 38 + upTo(4) : upTo(6);
        for (int i = 0; i < commands; i++) {
            text.append(commandText()).append(gap()).append(';').append(gap());
        }
        return spoiled(text.toString());
    }

    private String commandText() {
        String minus = random.nextBoolean() ? gap() + "-" + gap() : " ";
        switch (random.nextInt(7)) {
            case 0:
                return "set" + gap() + digits(Math.min(8, y.state(0) + (random.nextInt(20) == 0 ? 1 : 0)));
            case 1:
            case 2:
                return "turn" + minus + (random.nextInt(40) == 0 ? upTo(110) : 1 + upTo(4));
            case 3:
                return "shift" + minus + (random.nextInt(40) == 0 ? 17 : upTo(8));
            case 4:
                return "clear" + new String[] {"", " result", " counter", "\npins"}[random.nextInt(4)];
            case 5:
                return "times" + gap() + digits(6) + gap() + (random.nextBoolean() ? "short" : "");
            default:
                return "divide";
        }
    }

    private void compareAll() {
        for (int i = -1; i < 17; i++) {
            int at = i;
            same("state(" + i + ")", () -> x.state(at), () -> y.state(at));
            same("count(" + i + ")", () -> x.count(at), () -> y.count(at));
            same("digit(" + i + ")", () -> x.digit(at), () -> y.digit(at));
            same("counterDigit(" + i + ")", () -> x.counterDigit(at), () -> y.counterDigit(at));
            same("pin(" + i + ")", () -> x.pin(at), () -> y.pin(at));
            same("fault(" + i + ")", () -> x.fault(at), () -> y.fault(at));
            same("isLeverSet(" + i + ")", () -> x.isLeverSet(at) ? 1 : 0, () -> y.isLeverSet(at) ? 1 : 0);
            same("steps(" + i + ")", () -> x.steps(at), () -> y.steps(at));
            same("jam(" + i + ")", () -> x.jam(at), () -> y.jam(at));
        }
        compareTexts();
        compareNumbers();
    }

    private void compareTexts() {
        for (int i = -1; i < 31; i++) {
            for (int j = -1; j < 5; j++) {
                int at = i;
                int what = j;
                same("logged(" + i + ", " + j + ")", () -> x.logged(at, what), () -> y.logged(at, what));
            }
        }
        if (random.nextInt(3) > 0) {
            same("show()", x::show, y::show);
        }
        for (int i = -1; i < 37; i++) {
            int at = i;
            same("textByte(" + i + ")", () -> x.textByte(at), () -> y.textByte(at));
        }
    }

    private void compareNumbers() {
        same("errorCode()", x::errorCode, y::errorCode);
        same("errorPosition()", x::errorPosition, y::errorPosition);
        same("result()", x::result, y::result);
        same("counter()", x::counter, y::counter);
        same("complement()", x::complement, y::complement);
        same("busiest()", x::busiest, y::busiest);
        same("dueResult()", x::dueResult, y::dueResult);
        same("isRight()", () -> x.isRight() ? 1 : 0, () -> y.isRight() ? 1 : 0);
        same("firstWrong()", x::firstWrong, y::firstWrong);
        same("wrongDigits()", x::wrongDigits, y::wrongDigits);
        same("error()", x::error, y::error);
        same("residue()", x::residue, y::residue);
        same("soundness()", () -> Float.floatToIntBits(x.soundness()), () -> Float.floatToIntBits(y.soundness()));
        same("changeCount()", x::changeCount, y::changeCount);
    }
}
