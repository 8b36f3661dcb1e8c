/** Section 5 from the tokens on, and promises 4 to 7: setups and scripts, and the report of their errors. */
final class TextEdges extends Edge {
    private static final String FORTY = "turn 1;".repeat(40);

    private TextEdges() {
    }

    static void all() {
        blanks();
        tokens();
        tooLong();
        setupGrammar();
        scriptGrammar();
        commandGrammar();
        faultNumbers();
        sizes();
        scriptNumbers();
        commandByCommand();
        scriptEnds();
        firstOffendingToken();
        syntaxAndRange();
        repeated();
        limit();
        setup();
        setupReplaces();
        script();
        scriptAnswers();
        errorCode();
        errorPosition();
    }

    private static void taken(String text) {
        CrankCalculator x = new CrankCalculator();
        isFalse("setup \"" + text + "\" is refused", () -> setup(x, text) == NONE);
        due("errorCode of \"" + text + "\"", 0, x::errorCode);
        due("errorPosition of \"" + text + "\"", NONE, x::errorPosition);
    }

    private static void wrong(String text, int code, int position) {
        CrankCalculator x = new CrankCalculator();
        due("setup \"" + text + "\"", NONE, () -> setup(x, text));
        due("errorCode of \"" + text + "\"", code, x::errorCode);
        due("errorPosition of \"" + text + "\"", position, x::errorPosition);
    }

    private static void done(String text, int commands) {
        CrankCalculator x = made("pins 3; wheels 9;");
        due("script \"" + text + "\"", commands, () -> script(x, text));
        due("errorCode of \"" + text + "\"", 0, x::errorCode);
        due("errorPosition of \"" + text + "\"", NONE, x::errorPosition);
    }

    private static void wrongScript(String text, int code, int position) {
        CrankCalculator x = made("pins 3; wheels 9;");
        due("script \"" + text + "\"", NONE, () -> script(x, text));
        due("errorCode of \"" + text + "\"", code, x::errorCode);
        due("errorPosition of \"" + text + "\"", position, x::errorPosition);
    }

    private static void blanks() {
        section(5, "A text is a sequence of tokens.", () -> {
            taken("");
            done("", 0);
            taken("pins 3;");
        });
        section(5, "Blanks (byte values 32 and 10) may stand before, between and after tokens and have no other meaning.",
            () -> {
                taken(" ");
                taken("\n");
                done(" \n ", 0);
                taken(" pins 3;");
                taken("\npins\n3\n;\n");
                taken("pins3;");
                taken("pins 3 ;  ");
                done("turn - 1 ; clear\n\n result;", 2);
                for (char sign : new char[] {0, 1, 9, 11, 12, 13, 31, 33, 127, 128, 138, 160, 255}) {
                    wrong(sign + "pins 3;", 1, 0);
                    wrong("pins" + sign + "3;", 1, 4);
                    wrong("pins 3;" + sign, 1, 7);
                }
            });
    }

    private static void tokens() {
        section(5, "A maximal run of lower-case letters is a word token, a maximal run of digits is a number token,"
            + " and each other byte is a token of its own.", () -> {
            // a and z are letters, the signs before and behind them are none
            wrong("pinsa 3;", 1, 0);
            wrong("pinsz 3;", 1, 0);
            wrong("apins 3;", 1, 0);
            wrong("zpins 3;", 1, 0);
            wrong("pins` 3;", 1, 4);
            wrong("pins{ 3;", 1, 4);
            wrong("pinsA 3;", 1, 4);
            wrong("PINS 3;", 1, 0);
            wrong("pi ns 3;", 1, 0);
            wrong("pinswheels 3;", 1, 0);
            // 0 and 9 are digits, the signs before and behind them are none
            wrong("pins 30;", 2, 5);
            wrong("pins 39;", 2, 5);
            wrong("pins 3/;", 1, 6);
            wrong("pins 3:;", 1, 6);
            wrong("pins 1 0;", 2, 5);
            taken("reach 09;");
            // a letter ends a number, a digit ends a word
            wrong("pins 3a;", 1, 6);
            taken("pins3;wheels9;");
            // other bytes, one by one
            wrong("pins 3;;", 1, 7);
            wrongScript("turn--1;", 1, 5);
            done("turn-1;", 1);
            wrong("pins 3\u00e9;", 1, 6);
        });
    }

    private static void tooLong() {
        section(5, "A word token of more than 8 letters and a number token of more than 8 digits are invalid.", () -> {
            taken("pins 00000003;");
            wrong("pins 000000003;", 1, 5);
            wrong("pins 99999999;", 2, 5);
            wrong("pins 100000000;", 1, 5);
            wrong("pins 4294967299;", 1, 5);
            wrong("pins 18446744073709551619;", 1, 5);
            done("set 00000012;", 1);
            wrongScript("set 000000012;", 1, 4);
            done("times 00000012;", 1);
            wrongScript("times 000000012;", 1, 6);
            wrong("counters 3;", 1, 0);
            wrong("counterss 3;", 1, 0);
            wrongScript("set 1; aaaaaaaa;", 1, 7);
            wrongScript("set 1; aaaaaaaaa;", 1, 7);
            wrongScript(FORTY + "turnturnt 1;", 1, 280);
        });
    }

    private static void setupGrammar() {
        section(5, "setup = { ( \"pins\" | \"wheels\" | \"counter\" | \"reach\" | \"slip\" | \"stuck\" ) NUMBER \";\" }",
            () -> {
                for (String word : new String[] {"pins", "wheels", "counter", "reach", "slip", "stuck"}) {
                    taken(word + " 4;");
                    wrong("x" + word.substring(1) + " 4;", 1, 0);
                    wrong(word.substring(1) + " 4;", 1, 0);
                    wrong(word + ";", 1, word.length());
                    wrong(word + " 4", 1, word.length() + 2);
                    wrong(word + " 4,", 1, word.length() + 2);
                    wrong(word + " -4;", 1, word.length() + 1);
                    wrong(word + " 4 4;", 1, word.length() + 3);
                    wrong(word + " " + word + ";", 1, word.length() + 1);
                }
                wrong("set 4;", 1, 0);
                wrong("4;", 1, 0);
                wrong(";", 1, 0);
                taken("pins 3; wheels 9; counter 5; reach 2; slip 0; stuck 0;");
            });
    }

    private static void scriptGrammar() {
        section(5, "script = { command \";\" }", () -> {
            done("", 0);
            done("clear;", 1);
            done("clear; clear;", 2);
            wrongScript("clear", 1, 5);
            wrongScript("clear clear;", 1, 6);
            wrongScript(";", 1, 0);
            wrongScript("clear;;", 1, 6);
            wrongScript("pins 3;", 1, 0);
            wrongScript("3;", 1, 0);
        });
    }

    private static void commandGrammar() {
        section(5, "command = \"set\" NUMBER | \"turn\" [ \"-\" ] NUMBER | \"shift\" [ \"-\" ] NUMBER"
            + " | \"clear\" [ \"result\" | \"counter\" | \"pins\" ] | \"times\" NUMBER [ \"short\" ] | \"divide\"", () -> {
            done("set 1; turn 1; turn -1; shift 1; shift -1; times 1; times 1 short;", 7);
            done("set 1; clear result; clear counter; divide; clear pins; clear;", 6);
            for (String word : new String[] {"set", "turn", "shift", "times"}) {
                wrongScript(word + ";", 1, word.length());
                wrongScript(word + " short;", 1, word.length() + 1);
                wrongScript(word + " 1 1;", 1, word.length() + 3);
                wrongScript(word + " 1 -;", 1, word.length() + 3);
                wrongScript("x" + word.substring(1) + " 1;", 1, 0);
            }
            wrongScript("set -1;", 1, 4);
            wrongScript("times -1;", 1, 6);
            wrongScript("turn - -1;", 1, 7);
            wrongScript("turn +1;", 1, 5);
            wrongScript("turn -;", 1, 6);
            wrongScript("shift - -1;", 1, 8);
            wrongScript("set 1 short;", 1, 6);
            wrongScript("turn 1 short;", 1, 7);
            wrongScript("shift 1 short;", 1, 8);
            wrongScript("times 1 short short;", 1, 14);
            wrongScript("times 1 result;", 1, 8);
            wrongScript("clear short;", 1, 6);
            wrongScript("clear 1;", 1, 6);
            wrongScript("clear wheels;", 1, 6);
            wrongScript("clear result counter;", 1, 13);
            wrongScript("clear counter pins;", 1, 14);
            wrongScript("clear pins result;", 1, 11);
            wrongScript("divide 1;", 1, 7);
            wrongScript("divide short;", 1, 7);
            wrongScript("xlear;", 1, 0);
            wrongScript("xivide;", 1, 0);
        });
    }

    private static void faultNumbers() {
        section(5, "In a setup, \"slip\" tells a wheel whose lever slips, and \"stuck\" one that is stuck, by numbers"
            + " less than that of the wheels (as it was told before in the text, or is at first);", () -> {
            due("slip", 1, () -> made("slip 3;").fault(3));
            due("stuck", 2, () -> made("stuck 3;").fault(3));
            due("both", 3, () -> made("stuck 3; slip 3;").fault(3));
            due("no other wheel", 1, () -> made("slip 3;").state(5));
            for (String word : new String[] {"slip ", "stuck "}) {
                int length = word.length();
                taken(word + "0;");
                taken(word + "7;");
                wrong(word + "8;", 2, length);
                taken("wheels 5;" + word + "4;");
                wrong("wheels 5;" + word + "5;", 2, 9 + length);
                taken("wheels 16;" + word + "15;");
                wrong("wheels 16;" + word + "16;", 2, 10 + length);
                // the wheels of the machine before have no part in it
                CrankCalculator x = made("wheels 16;");
                due(word + "8; behind a machine of 16 wheels", NONE, () -> setup(x, word + "8;"));
                CrankCalculator y = made("wheels 4;");
                due(word + "7; behind a machine of 4 wheels", 8, () -> setup(y, word + "7;"));
            }
        });
    }

    private static void sizes() {
        section(5, "each of the others may occur once,", () -> {
            taken("pins 3; wheels 9; counter 3; reach 3;");
            wrong("pins 3; pins 3;", 3, 8);
            wrong("wheels 9; wheels 9;", 3, 10);
            wrong("counter 3; counter 3;", 3, 11);
            wrong("reach 3; reach 3;", 3, 9);
            wrong("reach 3; counter 3; reach 3;", 3, 20);
            CrankCalculator x = made("pins 3;");
            due("once more in the next text", 8, () -> setup(x, "pins 3;"));
            setup(x, "pins 3; pins");
            due("also behind an error", 8, () -> setup(x, "pins 3;"));
        });
        section(5, "and \"wheels\" must be at least the pins that were told before, or 4.", () -> {
            taken("wheels 4;");
            wrong("wheels 3;", 2, 7);
            wrong("wheels 3; pins 2;", 2, 7);
            taken("pins 2; wheels 2;");
            wrong("pins 2; wheels 1;", 2, 15);
            taken("pins 3; wheels 3;");
            taken("pins 8; wheels 8;");
            wrong("pins 8; wheels 7;", 2, 15);
            taken("pins 5; wheels 16;");
            wrong("pins 5; wheels 17;", 2, 15);
            CrankCalculator x = made("pins 8;");
            due("the pins of the machine before have no part in it", 4, () -> setup(x, "wheels 4;"));
        });
        section(5, "Pins must not be more than the wheels told before, or 8.", () -> {
            taken("pins 8;");
            wrong("pins 9;", 2, 5);
            taken("wheels 4; pins 4;");
            wrong("wheels 4; pins 5;", 2, 15);
            taken("wheels 7; pins 7;");
            wrong("wheels 7; pins 8;", 2, 15);
            taken("wheels 16; pins 8;");
            wrong("wheels 16; pins 9;", 2, 16);
            taken("wheels 4; pins 2;");
            wrong("wheels 4; pins 1;", 2, 15);
            CrankCalculator x = made("wheels 4;");
            due("the wheels of the machine before have no part in it", 8, () -> setup(x, "pins 8;"));
        });
    }

    private static void scriptNumbers() {
        section(5, "The numbers of a script are: set 0 to 10 to the power of n minus 1, turn 1 to 99, shift 0 to 16,"
            + " times 0 to 999999.", () -> {
            done("set 0;", 1);
            done("set 999;", 1);
            wrongScript("set 1000;", 2, 4);
            due("set with 2 pins", 1, () -> script(made("pins 2;"), "set 99;"));
            due("set with 2 pins", NONE, () -> script(made("pins 2;"), "set 100;"));
            due("set with 8 pins", 1, () -> script(made("pins 8;"), "set 99999999;"));
            done("turn 1;", 1);
            done("turn 99;", 1);
            wrongScript("turn 0;", 2, 5);
            wrongScript("turn 100;", 2, 5);
            done("turn -1;", 1);
            done("turn -99;", 1);
            wrongScript("turn -0;", 2, 6);
            wrongScript("turn -100;", 2, 6);
            done("shift 0;", 1);
            done("shift -0;", 1);
            done("shift 16;", 1);
            done("shift -16;", 1);
            wrongScript("shift 17;", 2, 6);
            wrongScript("shift -17;", 2, 7);
            done("times 0;", 1);
            done("times 999999;", 1);
            wrongScript("times 1000000;", 2, 6);
            done("times 999999 short;", 1);
            wrongScript("times 1000000 short;", 2, 6);
        });
    }

    private static void commandByCommand() {
        section(5, "A script is done command by command, as by setPins, turn, shift (by as much as it can be shifted at"
            + " most; it is done to its end then), clear, multiply and divide;", () -> {
            CrankCalculator x = made("pins 3; wheels 6;");
            CrankCalculator y = made("pins 3; wheels 6;");
            due("script", 9, () -> script(x,
                "set 123; turn 4; shift 2; turn -1; clear counter; times 56; times 19 short; divide; clear;"));
            y.setPins(123);
            y.turn(4);
            y.shift(2);
            y.turn(-1);
            y.clear(2);
            y.multiply(56, false);
            y.multiply(19, true);
            y.divide();
            y.clear(0);
            dueText("the machine", portrait(y), portrait(x));
            String machine = "pins 3; wheels 6;";
            due("shift to the end", 3, () -> at(machine, "shift 3;").state(4));
            due("shift beyond the end", 3, () -> at(machine, "shift 4;").state(4));
            due("shift beyond the end", 3, () -> at(machine, "shift 1; shift 16;").state(4));
            due("shift back to 0", 0, () -> at(machine, "shift 2; shift -2;").state(4));
            due("shift back beyond 0", 0, () -> at(machine, "shift 2; shift -3;").state(4));
            due("shift back beyond 0", 0, () -> at(machine, "shift 2; shift -16;").state(4));
            due("shift by 0", 2, () -> at(machine, "shift 2; shift 0; shift -0;").state(4));
            due("it is done to its end then", 2, () -> script(made(machine), "shift 16; turn 1;"));
            due("it is done to its end then", 2, () -> script(made("pins 8;"), "shift -1; turn 1;"));
        });
    }

    private static void ends(String setup, String script, int commands, int jammed, String result) {
        CrankCalculator x = made(setup);
        due("\"" + script + "\"", commands, () -> script(x, script));
        due("jammed by \"" + script + "\"", jammed, () -> x.state(6));
        dueText("shown behind \"" + script + "\"", result, shown(x));
        due("errorCode behind \"" + script + "\"", 0, x::errorCode);
    }

    private static void scriptEnds() {
        section(5, "it ends at the first command that jams (what was done of it stays; it does not count as done),"
            + " or that would throw an exception.", () -> {
            String machine = "pins 2; wheels 4; counter 2; stuck 2;";
            ends(machine, "set 40; turn 2; turn 3; clear;", 2, 1, "00^20 02 40!");
            ends(machine, "set 40; turn 5; clear;", 1, 1, "00^20 02 40!");
            ends(machine, "turn -1; set 1; turn -1; set 2;", 2, 1, "00^99 99 01!");
            ends(machine, "set 40; times 3; clear;", 1, 1, "00^20 02 40!");
            ends(machine, "set 40; times 12 short; clear;", 1, 1, "0^080 02 40!");
            ends(machine, "set 4; divide; clear;", 1, 1, "^0000 00 04!");
            ends(machine, "set 4; times 20; divide; set 1; clear;", 2, 1, "^0080 20 04!");
            // what would throw an exception leaves the carriage
            ends(machine, "shift 1; times 1000; clear;", 1, 0, "0^000 00 00");
            ends(machine, "shift 1; times 600 short; clear;", 1, 0, "0^000 00 00");
            ends(machine, "shift 1; times 500 short; set 5;", 3, 0, "^0000 00 05");
            ends(machine, "shift 1; divide; set 5;", 1, 0, "0^000 00 00");
            ends(machine, "divide;", 0, 0, "00^00 00 00");
            ends("pins 2; wheels 2; counter 2;", "set 1; divide; turn 1;", 3, 0, "^01 01 01");
        });
    }

    private static void firstOffendingToken() {
        section(5, "An error is reported for the first offending token, with the index of its first byte, or with the"
            + " length of the text if the text ends too early.", () -> {
            wrong("pins 9; wheels 17;", 2, 5);
            wrong("pins 3; foo; pins 9;", 1, 8);
            wrong("  foo", 1, 2);
            wrong("\n\n  pins  99;", 2, 10);
            wrongScript("turn - 000; foo", 2, 7);
            wrongScript("set 1; turn 0; ?", 2, 12);
            wrongScript(FORTY + "turn 0; ?", 4, 280);
            wrong("pins", 1, 4);
            wrong("pins ", 1, 5);
            wrong("pins 3", 1, 6);
            wrong("pins 3 \n ", 1, 9);
            wrongScript("turn", 1, 4);
            wrongScript("turn -", 1, 6);
            wrongScript("times 1 short", 1, 13);
            wrongScript("clear\n", 1, 6);
            // the last byte of the longest text
            wrong(" ".repeat(899) + "?", 1, 899);
            wrong(" ".repeat(896) + "pins", 1, 900);
        });
        section(5, "If several errors apply to one token, the lowest code is reported.", TextEdges::lowestCodeOfSeveral);
    }

    private static void lowestCodeOfSeveral() {
        // syntax and range, syntax and repeated, syntax and limit
        wrong("pins 100000000;", 1, 5);
        wrong("slip 1; slip 000000001;", 1, 13);
        wrong("slip 1; slip 1000000001;", 1, 13);
        wrongScript(FORTY + "foo", 1, 280);
        wrongScript(FORTY + ";", 1, 280);
        wrongScript(FORTY + "turn 0;", 4, 280);
        // told twice, and behind a fault
        wrong("pins 3; slip 1; pins 3;", 3, 16);
    }

    private static void syntaxAndRange() {
        section(5, "1 (syntax): an invalid token, or a token that the grammar does not allow there.", () -> {
            wrong("pins 000000003;", 1, 5);
            wrong("abcdefghi 3;", 1, 0);
            wrong("pins ? 3;", 1, 5);
            wrong("3 pins;", 1, 0);
            wrong("pins 3 wheels 9;", 1, 7);
            wrongScript("set 1, turn 1;", 1, 5);
            wrongScript("wheels 9;", 1, 0);
        });
        section(5, "2 (range): a number out of its range.", () -> {
            wrong("counter 1;", 2, 8);
            wrong("counter 9;", 2, 8);
            wrong("reach 17;", 2, 6);
            wrong("slip 8;", 2, 5);
            wrong("stuck 99999999;", 2, 6);
            wrongScript("times 1000000;", 2, 6);
            // the number counts, not its digits
            taken("reach 0016;");
            wrong("reach 0017;", 2, 6);
        });
    }

    private static void repeated() {
        section(5, "3 (repeated): the first word of a second statement of the same kind, apart from slip and stuck;"
            + " a wheel that has this fault already; the word pins, wheels behind a statement slip or stuck.", () -> {
            wrong("counter 3; counter", 3, 11);
            wrong("reach 3; reach 99;", 3, 9);
            taken("slip 1; slip 2; slip 0;");
            taken("stuck 1; stuck 2; stuck 0;");
            taken("slip 1; stuck 1;");
            taken("stuck 1; slip 1;");
            wrong("slip 1; slip 1;", 3, 13);
            wrong("slip 1; slip 001;", 3, 13);
            wrong("stuck 7; slip 7; stuck 7;", 3, 23);
            wrong("slip 0; slip 1; slip 0;", 3, 21);
            wrong("slip 1; slip 1", 3, 13);
            for (String fault : new String[] {"slip 0; ", "stuck 0; "}) {
                wrong(fault + "pins 3;", 3, fault.length());
                wrong(fault + "wheels 9;", 3, fault.length());
                wrong(fault + "pins", 3, fault.length());
                wrong(fault + "wheels 99;", 3, fault.length());
                taken(fault + "counter 3;");
                taken(fault + "reach 3;");
                wrong("pins 3; " + fault + "pins 3;", 3, 8 + fault.length());
            }
            // in a script all may be repeated
            done("set 1; set 1; shift 1; shift 1; divide; divide;", 6);
        });
    }

    private static void limit() {
        section(5, "4 (limit): the first word of the 41st command of a script.", () -> {
            done(FORTY, 40);
            wrongScript(FORTY + "turn 1;", 4, 280);
            wrongScript(FORTY + " \n turn 1;", 4, 283);
            wrongScript(FORTY + "divide", 4, 280);
            wrongScript(FORTY + "clear;" + FORTY, 4, 280);
            wrongScript(FORTY.substring(7) + "turn", 1, 277);
            // a setup has no such limit
            StringBuilder text = new StringBuilder("wheels 16; pins 4; counter 4; reach 4;");
            for (int wheel = 0; wheel < 16; wheel++) {
                text.append("slip ").append(wheel).append("; stuck ").append(wheel).append(';');
            }
            taken(text.toString());
            due("32 statements slip and stuck", 32, () -> made(text.toString()).state(5));
        });
    }

    private static void setup() {
        promise(4, "Parses the buffer as a setup.", () -> {
            CrankCalculator x = new CrankCalculator();
            due("of a setup", 5, () -> setup(x, "pins 3; wheels 5;"));
            due("of a script", NONE, () -> setup(x, "set 1;"));
            due("of nothing", 8, x::setup);
        });
        promise(4, "Returns the number of result wheels, or NONE if the text has an error.", () -> {
            due("the fewest", 2, () -> setup(new CrankCalculator(), "pins 2; wheels 2;"));
            due("at first", 8, () -> setup(new CrankCalculator(), "pins 5; counter 3;"));
            due("the most", 16, () -> setup(new CrankCalculator(), "wheels 16;"));
            due("an error", -1, () -> setup(new CrankCalculator(), "wheels 17;"));
        });
    }

    private static void setupReplaces() {
        promise(4, "If it has no error, such a machine replaces the earlier one, with the digits 0 and all counts 0;"
            + " nothing is saved, and nothing can be undone.", () -> {
            CrankCalculator x = at("pins 3; wheels 9; counter 6; reach 2; slip 1; stuck 8;",
                "set 987; turn 9; shift 6; turn 2;");
            due("jammed", 1, () -> x.state(6));
            x.save(0);
            x.save(1);
            String before = portrait(x);
            due("with an error", NONE, () -> setup(x, "pins 2; wheels 2; slip 0; stuck 1; slip 0;"));
            dueText("the earlier machine stays", before, portrait(x));
            due("what can be undone stays", 1, x::changeCount);
            due("what is saved stays", 6, () -> x.restore(0));
            due("what is saved stays", 6, () -> x.restore(1));
            due("without an error", 8, () -> setup(x, "counter 5; stuck 2;"));
            dueText("a new machine", portrait(made("counter 5; stuck 2;")), portrait(x));
            due("nothing can be undone", 0, x::changeCount);
            dueThrow("nothing can be undone", STATE, x::undo);
            dueThrow("nothing is saved", STATE, () -> x.restore(0));
            dueThrow("nothing is saved", STATE, () -> x.restore(1));
            // predictions play with the machine, and must leave nothing of it to the next one
            CrankCalculator y = at("pins 3; wheels 9; counter 6; reach 2; slip 1; stuck 8;",
                "set 987; turn 9; shift 2; turn 2;");
            y.resultAfter(50);
            due("behind a prediction", 8, () -> setup(y, "counter 5; stuck 2;"));
            dueText("a new machine", portrait(made("counter 5; stuck 2;")), portrait(y));
            due("it turns", 3, () -> y.turn(3));
            due("with pins of its own", 0, () -> y.logged(2, 2));
            CrankCalculator z = at("stuck 1;", "set 19;");
            z.resultAfter(-1);
            due("behind a prediction that jams", 8, () -> setup(z, "stuck 3;"));
            dueText("a new machine", portrait(made("stuck 3;")), portrait(z));
        });
    }

    private static void script() {
        promise(5, "Parses the buffer as a script.", () -> {
            due("of a script", 2, () -> script(new CrankCalculator(), "set 1; turn 1;"));
            due("of a setup", NONE, () -> script(new CrankCalculator(), "pins 4;"));
            due("of nothing", 0, () -> new CrankCalculator().script());
        });
        promise(5, "If it has no error, its commands are done.", () -> {
            due("no error", 15, () -> at("", "set 5; turn 3;").result());
            CrankCalculator x = new CrankCalculator();
            due("an error in the last token", NONE, () -> script(x, "set 5; turn 3; clear"));
            due("nothing is done", 0, x::result);
            due("no pin is set", 0, () -> x.pin(0));
            due("no change", 0, x::changeCount);
        });
    }

    private static void scriptAnswers() {
        promise(5, "Returns the number of commands that were done to their ends, or NONE if the text has an error.", () -> {
            done("", 0);
            done("divide;", 0);
            done("turn 1;", 1);
            done(FORTY, 40);
            done("times 999999; divide; set 1; divide; clear;", 1);
            due("jammed", 1, () -> script(made("stuck 0;"), "set 1; turn 1; set 2;"));
            due("an error", -1, () -> script(new CrankCalculator(), "turn 100;"));
        });
        promise(5, "Throws `IllegalStateException` if the machine is jammed", () -> {
            CrankCalculator x = jammed();
            put(x, "clear;");
            String before = whole(x);
            dueThrow("script()", STATE, x::script);
            dueText("script() changes nothing", before, whole(x));
            dueThrow("but the buffer", ARGUMENT, () -> x.truncate(1));
            put(x, "?");
            dueThrow("with an error", STATE, x::script);
            due("which is not reported", 0, x::errorCode);
            dueThrow("with an empty buffer", STATE, x::script);
            x.crankBack();
            put(x, "clear;");
            due("not jammed any more", 1, x::script);
        });
    }

    private static void errorCode() {
        promise(6, "Returns the code of the error of the latest call of setup or script that did not throw an exception.",
            () -> {
                CrankCalculator x = jammed();
                setup(x, "pins 9;");
                due("of the setup", 2, x::errorCode);
                put(x, "foo;");
                dueThrow("script()", STATE, x::script);
                due("still of the setup", 2, x::errorCode);
                x.crankBack();
                due("not of other calls", 2, x::errorCode);
                script(x, "foo;");
                due("of the script", 1, x::errorCode);
                x.undo();
                due("not undone", 1, x::errorCode);
            });
        promise(6, "Returns 1 to 4; 0 if that text had no error or if there was none.", () -> {
            CrankCalculator x = new CrankCalculator();
            due("no text yet", 0, x::errorCode);
            script(x, "turn;");
            due("syntax", 1, x::errorCode);
            script(x, "turn 0;");
            due("range", 2, x::errorCode);
            setup(x, "reach 1; reach");
            due("repeated", 3, x::errorCode);
            script(x, FORTY + "turn");
            due("limit", 4, x::errorCode);
            script(x, "turn 1; divide;");
            due("a script without error", 0, x::errorCode);
            script(x, "turn");
            x.setup();
            due("a setup without error", 0, x::errorCode);
        });
    }

    private static void errorPosition() {
        promise(7, "Returns the position of the error of the latest call of setup or script"
            + " that did not throw an exception.", () -> {
            CrankCalculator x = jammed();
            setup(x, "pins 9;");
            due("of the setup", 5, x::errorPosition);
            put(x, "foo;");
            dueThrow("script()", STATE, x::script);
            due("still of the setup", 5, x::errorPosition);
            x.crankBack();
            due("not of other calls", 5, x::errorPosition);
            script(x, "foo;");
            due("of the script", 0, x::errorPosition);
            x.undo();
            due("not undone", 0, x::errorPosition);
        });
        promise(7, "Returns the position; NONE if that text had no error or if there was none.", () -> {
            CrankCalculator x = new CrankCalculator();
            due("no text yet", -1, x::errorPosition);
            script(x, "?");
            due("the first byte", 0, x::errorPosition);
            setup(x, " ".repeat(899) + "?");
            due("the last byte", 899, x::errorPosition);
            setup(x, " ".repeat(896) + "pins");
            due("behind the last byte", 900, x::errorPosition);
            script(x, "turn 1;");
            due("a script without error", -1, x::errorPosition);
            script(x, "turn");
            x.setup();
            due("a setup without error", -1, x::errorPosition);
        });
    }
}
