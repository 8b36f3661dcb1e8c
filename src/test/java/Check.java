import java.nio.charset.StandardCharsets;
import java.util.Arrays;
import java.util.NoSuchElementException;
import java.util.function.BooleanSupplier;
import java.util.function.IntSupplier;
import java.util.function.LongSupplier;

/** What the tests share: it prints each answer that is not the one that is due. */
class Check {
    private static int wrong = 0;
    private static int asked = 0;
    private static String told = "";

    Check() {
    }

    /** What is asked from now on belongs to this sentence of the document, "" for none. */
    static void tellAhead(String sentence) {
        told = sentence;
    }

    static int asked() {
        return asked;
    }

    static void due(String call, long want, LongSupplier answer) {
        asked++;
        String got;
        try {
            got = String.valueOf(answer.getAsLong());
        } catch (RuntimeException e) {
            got = "throws." + e.getClass().getSimpleName();
        }
        if (!got.equals(String.valueOf(want))) {
            tell(call + " answered " + got + ", due is " + want);
        }
    }

    static void isTrue(String call, BooleanSupplier answer) {
        due(call, 1, () -> answer.getAsBoolean() ? 1 : 0);
    }

    static void isFalse(String call, BooleanSupplier answer) {
        due(call, 0, () -> answer.getAsBoolean() ? 1 : 0);
    }

    static void dueText(String call, String want, String got) {
        asked++;
        if (!got.equals(want)) {
            tell(call + " answered \"" + got + "\", due is \"" + want + "\"");
        }
    }

    static void dueFloat(String call, float want, float got) {
        asked++;
        if (got != want) {
            tell(call + " answered " + got + ", due is " + want);
        }
    }

    /** The exception must be of this very class. */
    static void dueThrow(String call, Class<? extends RuntimeException> want, LongSupplier answer) {
        asked++;
        String got;
        try {
            got = String.valueOf(answer.getAsLong());
        } catch (RuntimeException e) {
            if (e.getClass() == want) {
                return;
            }
            got = "throws." + e.getClass().getSimpleName();
        }
        tell(call + " answered " + got + ", due is throws." + want.getSimpleName());
    }

    static void tell(String words) {
        wrong++;
        if (wrong <= 50) {
            System.out.println(told + words);
        }
    }

    static void end() {
        System.out.println(asked + " answers, " + wrong + " of them wrong");
        if (wrong > 0 || asked == 0) {
            System.exit(1);
        }
    }

    /** Puts a text behind what is in the buffer, which has the length given. */
    static void append(CrankCalculator x, int length, byte[] bytes) {
        int at = 0;
        while (at < bytes.length) {
            byte[] part = new byte[20];
            Arrays.fill(part, (byte) 32);
            System.arraycopy(bytes, at, part, 0, Math.min(20, bytes.length - at));
            x.append(number(part, 0), number(part, 4), number(part, 8), number(part, 12), number(part, 16));
            at += 20;
        }
        x.truncate(length + bytes.length);
    }

    static void put(CrankCalculator x, String text) {
        append(x, 0, text.getBytes(StandardCharsets.ISO_8859_1));
    }

    static int number(byte[] bytes, int at) {
        return (bytes[at] & 255) << 24 | (bytes[at + 1] & 255) << 16 | (bytes[at + 2] & 255) << 8
            | (bytes[at + 3] & 255);
    }

    static int setup(CrankCalculator x, String text) {
        put(x, text);
        return x.setup();
    }

    static int script(CrankCalculator x, String text) {
        put(x, text);
        return x.script();
    }

    static CrankCalculator made(String text) {
        CrankCalculator x = new CrankCalculator();
        if (setup(x, text) == CrankCalculator.NONE) {
            tell("the setup \"" + text + "\" has error " + x.errorCode() + " at " + x.errorPosition());
        }
        return x;
    }

    static String shown(CrankCalculator x) {
        int length = x.show();
        StringBuilder text = new StringBuilder();
        for (int i = 0; i < length; i++) {
            text.append((char) x.textByte(i));
        }
        return text.toString();
    }

    /** All that can be asked of a machine without changing it, apart from the text shown. */
    static String portrait(CrankCalculator x) {
        StringBuilder text = new StringBuilder();
        for (int what = 0; what < 7; what++) {
            text.append(x.state(what)).append(' ');
        }
        for (int what = 0; what < 6; what++) {
            text.append(x.count(what)).append(' ');
        }
        for (int wheel = 0; wheel < x.state(1); wheel++) {
            text.append('|').append(x.digit(wheel)).append(' ').append(x.fault(wheel)).append(' ')
                .append(x.isLeverSet(wheel)).append(' ').append(x.steps(wheel));
        }
        text.append(" = ").append(x.result()).append(' ').append(x.counter()).append(' ').append(x.dueResult());
        for (int pin = 0; pin < x.state(0); pin++) {
            text.append(' ').append(x.pin(pin));
        }
        for (int what = 0; what < 3; what++) {
            text.append(" j").append(value(jam(x, what)));
        }
        for (int index = 0; isLogged(x, index); index++) {
            text.append(',');
            for (int what = 0; what < 4; what++) {
                text.append(x.logged(index, what)).append(' ');
            }
        }
        return text.toString();
    }

    /** The portrait, and all else that can be asked: the error report, the changes and the text shown. */
    static String whole(CrankCalculator x) {
        StringBuilder text = new StringBuilder(portrait(x));
        text.append(" e").append(x.errorCode()).append(' ').append(x.errorPosition());
        text.append(" c").append(x.changeCount()).append(" t");
        for (int index = 0; isWritten(x, index); index++) {
            text.append((char) x.textByte(index));
        }
        return text.toString();
    }

    private static boolean isWritten(CrankCalculator x, int index) {
        try {
            x.textByte(index);
            return true;
        } catch (NoSuchElementException e) {
            return false;
        }
    }

    private static IntSupplier jam(CrankCalculator x, int what) {
        return () -> x.jam(what);
    }

    private static boolean isLogged(CrankCalculator x, int index) {
        try {
            x.logged(index, 0);
            return true;
        } catch (NoSuchElementException e) {
            return false;
        }
    }

    private static String value(IntSupplier answer) {
        try {
            return String.valueOf(answer.getAsInt());
        } catch (RuntimeException e) {
            return e.getClass().getSimpleName().substring(0, 4);
        }
    }
}
