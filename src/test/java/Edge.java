import java.io.IOException;
import java.io.UncheckedIOException;
import java.nio.file.Files;
import java.nio.file.Path;
import java.util.LinkedHashMap;
import java.util.List;
import java.util.Map;
import java.util.NoSuchElementException;
import java.util.function.Supplier;
import java.util.function.ToLongFunction;

/**
 * Tests that belong to a sentence of the document each. The sentence must stand in the document as it is quoted
 * here, and all the sentences together must cover its sections and promises, so that none is forgotten.
 */
abstract class Edge extends Check {
    static final Class<IllegalStateException> STATE = IllegalStateException.class;
    static final Class<IllegalArgumentException> ARGUMENT = IllegalArgumentException.class;
    static final Class<IndexOutOfBoundsException> INDEX = IndexOutOfBoundsException.class;
    static final Class<NoSuchElementException> ELEMENT = NoSuchElementException.class;
    static final int LEAST = Integer.MIN_VALUE;
    static final int GREATEST = Integer.MAX_VALUE;
    static final int NONE = -1;

    private static final Path DOCUMENT = Path.of("../shared/DOC.md");
    private static final Map<String, Part> PARTS = parts();

    /** A section or a promise of the document, and which of its signs are quoted by a test. */
    private static final class Part {
        private final StringBuilder lines = new StringBuilder();
        private boolean[] isQuoted;

        String text() {
            return lines.toString().replaceAll("\\s+", " ");
        }

        boolean quote(String sentence) {
            String text = text();
            if (isQuoted == null) {
                isQuoted = new boolean[text.length()];
            }
            int at = text.indexOf(sentence);
            for (int i = Math.max(at, 0); i < at + sentence.length() && at >= 0; i++) {
                isQuoted[i] = true;
            }
            return at >= 0;
        }

        String rest() {
            String text = text();
            StringBuilder rest = new StringBuilder();
            for (int i = 0; i < text.length(); i++) {
                rest.append(isQuoted != null && isQuoted[i] ? '\t' : text.charAt(i));
            }
            // signs between two quotes say nothing
            return rest.toString().replaceAll("\\t+[^a-zA-Z0-9\\t]*", " ").replaceAll("^[^a-zA-Z0-9]*$", "").trim();
        }
    }

    private static Map<String, Part> parts() {
        Map<String, Part> parts = new LinkedHashMap<>();
        boolean isDescription = false;
        String part = "";
        for (String line : documentLines()) {
            boolean isHead = true;
            if (line.startsWith("## ")) {
                isDescription = line.equals("## Description");
                part = line.startsWith("## Promise ") ? line.substring(3, line.indexOf(':')) : "";
            } else if (isDescription && line.matches("\\d\\. .*")) {
                part = "Section " + line.charAt(0);
            } else if (isDescription && line.equals("The constants:")) {
                part = "Constants";
            } else if (line.startsWith("The constructor and the methods follow")) {
                part = "";
            } else {
                isHead = line.startsWith("----") || line.matches("`[^`]*`");
            }
            if (!isHead && !part.isEmpty()) {
                parts.computeIfAbsent(part, name -> new Part()).lines.append(line).append('\n');
            }
        }
        return parts;
    }

    private static List<String> documentLines() {
        try {
            return Files.readAllLines(DOCUMENT);
        } catch (IOException e) {
            throw new UncheckedIOException(e);
        }
    }

    static void promise(int number, String sentence, Runnable test) {
        holds("Promise " + number, sentence, test);
    }

    static void section(int number, String sentence, Runnable test) {
        holds("Section " + number, sentence, test);
    }

    static void holds(String part, String sentence, Runnable test) {
        tellAhead(part + ", \"" + sentence + "\": ");
        if (!PARTS.containsKey(part) || !PARTS.get(part).quote(sentence)) {
            tell("the document has no such sentence");
        }
        int before = asked();
        try {
            test.run();
        } catch (RuntimeException e) {
            tell("the test was stopped by " + e);
        }
        if (asked() == before) {
            tell("the test asks nothing");
        }
        tellAhead("");
    }

    /** Tells what stands in the document, but is quoted by no test. */
    static void tellWhatIsForgotten() {
        due("sections, constants and promises", 6 + 1 + 51, PARTS::size);
        for (String part : PARTS.keySet()) {
            String rest = PARTS.get(part).rest();
            if (!rest.isEmpty()) {
                tell(part + " has no test for \"" + rest + "\"");
            }
        }
    }

    /** A machine behind a setup and a script, of which all commands but a jammed last one are done. */
    static CrankCalculator at(String setup, String script) {
        CrankCalculator x = made(setup);
        int commands = script.length() - script.replace(";", "").length();
        int done = script(x, script);
        if (done != commands && !(done == commands - 1 && x.state(6) == 1)) {
            tell("the script \"" + script + "\" answered " + done);
        }
        return x;
    }

    /** Jammed at wheel 0, which should make one step forward, before anything has moved. */
    static CrankCalculator jammed() {
        return at("stuck 0;", "set 1; turn 1;");
    }

    /** A saved state, a text shown, an error reported and seven bytes in the buffer: what a refused call must leave. */
    static CrankCalculator filled(Supplier<CrankCalculator> maker) {
        CrankCalculator x = maker.get();
        x.save(1);
        x.show();
        put(x, "?");
        x.setup();
        put(x, "turn 1;");
        return x;
    }

    /** The call must throw this very exception, and change nothing. */
    static void refused(Supplier<CrankCalculator> maker, Class<? extends RuntimeException> want, String call,
            ToLongFunction<CrankCalculator> answer) {
        CrankCalculator x = filled(maker);
        String before = whole(x);
        dueThrow(call, want, () -> answer.applyAsLong(x));
        dueText(call + " changes nothing", before, whole(x));
        dueThrow(call + " adds nothing to the buffer", ARGUMENT, () -> x.truncate(8));
        due(call + " takes nothing from the buffer", 7, () -> x.truncate(7));
    }

    /** The answers to a question with an index from 0 on. */
    static void dueRow(String call, long[] want, java.util.function.IntToLongFunction answer) {
        for (int i = 0; i < want.length; i++) {
            int index = i;
            due(call + ", index " + i, want[i], () -> answer.applyAsLong(index));
        }
    }

    static long[] row(long... numbers) {
        return numbers;
    }
}
