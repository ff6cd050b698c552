import java.util.NoSuchElementException;

/** A test for each sentence of "Terms, Text" and of promises 49 to 52 that names a boundary case. */
final class TextSentencesTest {
    private static final Class<IllegalArgumentException> ARGUMENT = IllegalArgumentException.class;
    private static final Class<IllegalStateException> STATE = IllegalStateException.class;
    private static final Class<NoSuchElementException> NO_SUCH = NoSuchElementException.class;
    private static final String SIXTY = "hard 1 1 1;soft 1 1 1;hard 1 1 1;hard 1 1 1;hard 1 1 1;toe 1";
    private static final String TWELVE = "pull;pull;pull;pull;pull;pull;pull;pull;pull;pull;pull;pull";

    private TextSentencesTest() {
    }

    public static void main(String[] args) {
        Sentences s = Sentences.run("TextSentencesTest");
        tell(s);
        s.close();
    }

    static void tell(Sentences s) {
        terms(s);
        type(s);
        execute(s);
        errorPosition(s);
        failedCommand(s);
    }

    private static void verdicts(Check check, String[][] due) {
        for (String[] pair : due) {
            check.same("'" + pair[0] + "'", pair[1], Tubs.verdict(pair[0]));
        }
    }

    private static void terms(Sentences s) {
        s.of("Terms, Text");
        s.says("Characters are collected in a buffer of at most 60 characters.", check -> {
            BathtubTides x = new BathtubTides();
            for (int i = 0; i < 60; i++) {
                check.same("character " + i, i + 1, x.type(SIXTY.charAt(i)));
            }
            check.fails("one more", STATE, () -> x.type('1'));
            check.same("the 60 stay as they are", 6, x.execute());
            check.same("the last of them, too", "true 5", x.hasToe(1) + " " + x.moonCount());
        });
        s.says("A command text has the following grammar, with terminals in quotes: text = command { \";\" command }; "
                + "command = \"hard\" n n n | \"soft\" n n n | \"bubble\" n n n | \"remove\" n | \"toe\" n | \"shave\" n | "
                + "\"plug\" n | \"pull\" | \"towel\" n n | \"wring\" n | \"flow\" ( n | \" -\" digit ) | \"wait\" n; n is a "
                + "blank and one or two decimal digits.", check -> {
                    commandsAndSemicolons(check);
                    numbers(check);
                    countsOfNumbers(check);
                });
        s.says("The commands stand for addHardMoon, addSoftMoon, addBubbleMoon, removeMoon, placeToe, removeToe, insertPlug, "
                + "pullPlug, layTowel, wringTowel, setFlow and advance, with their parameters in order.",
                TextSentencesTest::commandsAndMethods);
        s.says("The error position of a malformed text is the index of its first character that cannot continue any valid "
                + "text, or its length if it ends too early.", check -> {
                    endsTooEarly(check);
                    cannotContinue(check);
                });
    }

    private static void commandsAndSemicolons(Check check) {
        verdicts(check, new String[][] {{"toe 1", "executed 1"}, {"toe 1;toe 2", "executed 2"}, {"", "malformed 0"},
            {";", "malformed 0"}, {" ", "malformed 0"}, {"toe 1;", "malformed 6"}, {";toe 1", "malformed 0"},
            {"toe 1;;toe 2", "malformed 6"}, {"toe 1,toe 2", "malformed 5"}, {" toe 1", "malformed 0"},
            {"toe 1 ", "malformed 5"}, {"toe 1 ;toe 2", "malformed 5"}, {"toe 1; toe 2", "malformed 6"},
            {"toe 1toe 2", "malformed 5"}, {"TOE 1", "malformed 0"}, {"toE 1", "malformed 2"}, {"toes 1", "malformed 3"},
            {"plug 1;pull;plug 2", "executed 3"}, {"pull", "failed 0"}, {"pull1", "malformed 4"}});
    }

    private static void numbers(Check check) {
        verdicts(check, new String[][] {{"toe 0", "executed 1"}, {"toe 00", "executed 1"}, {"toe 9", "executed 1"},
            {"toe 09", "executed 1"}, {"toe 11", "executed 1"}, {"toe 99", "failed 0"}, {"toe 000", "malformed 6"},
            {"toe", "malformed 3"}, {"toe ", "malformed 4"}, {"toe1", "malformed 3"}, {"toe  1", "malformed 4"},
            {"toe /", "malformed 4"}, {"toe :", "malformed 4"}, {"toe 1/", "malformed 5"}, {"toe 1:", "malformed 5"},
            {"toe -1", "malformed 4"}, {"toe -0", "malformed 4"}, {"toe +1", "malformed 4"}, {"wait -1", "malformed 5"},
            {"flow 3", "executed 1"}, {"flow 03", "executed 1"}, {"flow 99", "failed 0"}, {"flow 003", "malformed 7"},
            {"flow -3", "executed 1"}, {"flow -0", "executed 1"}, {"flow -4", "failed 0"}, {"flow -9", "failed 0"},
            {"flow -", "malformed 6"}, {"flow -03", "malformed 7"}, {"flow - 3", "malformed 6"},
            {"flow --3", "malformed 6"}, {"flow-3", "malformed 4"}, {"flow  -3", "malformed 5"},
            {"flow -3;flow 3", "executed 2"}});
    }

    private static void countsOfNumbers(Check check) {
        for (String word : new String[] {"hard", "soft", "bubble"}) {
            int length = word.length();
            verdicts(check, new String[][] {{word, "malformed " + length}, {word + " 1", "malformed " + (length + 2)},
                {word + " 1 1", "malformed " + (length + 4)}, {word + " 1 1 1", "executed 1"},
                {word + " 06 11 12", "executed 1"}, {word + " 1 1 1 1", "malformed " + (length + 6)},
                {word + " 1 1;toe 1", "malformed " + (length + 4)}});
        }
        for (String word : new String[] {"remove", "toe", "shave", "plug", "wring", "flow", "wait"}) {
            int length = word.length();
            boolean fits = !word.equals("remove") && !word.equals("shave") && !word.equals("wring");
            verdicts(check, new String[][] {{word, "malformed " + length},
                {word + " 1", fits ? "executed 1" : "failed 0"}, {word + " 1 1", "malformed " + (length + 2)},
                {word + ";toe 1", "malformed " + length}});
        }
        verdicts(check, new String[][] {{"towel", "malformed 5"}, {"towel 1", "malformed 7"}, {"towel 1 1", "executed 1"},
            {"towel 1 1 1", "malformed 9"}, {"pull 1", "malformed 4"}, {"pull ", "malformed 4"}});
    }

    private static void commandsAndMethods(Check check) {
        String[] texts = {"hard 2 3 4", "soft 6 11 12", "bubble 5 0 1", "remove 0", "remove 2", "toe 11", "shave 4",
            "plug 0", "plug 11", "pull", "towel 11 60", "towel 0 0", "wring 0", "flow 3", "flow -3", "wait 1", "wait 60"};
        Check.Asking[] methods = {x -> x.addHardMoon(2, 3, 4), x -> x.addSoftMoon(6, 11, 12),
            x -> x.addBubbleMoon(5, 0, 1), x -> x.removeMoon(0), x -> x.removeMoon(2), x -> x.placeToe(11),
            x -> x.removeToe(4), x -> x.insertPlug(0), x -> x.insertPlug(11), x -> x.pullPlug(),
            x -> x.layTowel(11, 60), x -> x.layTowel(0, 0), x -> x.wringTowel(0), x -> x.setFlow(3), x -> x.setFlow(-3),
            x -> x.advance(1), x -> x.advance(60)};
        for (int i = 0; i < texts.length; i++) {
            BathtubTides byText = Tubs.busy();
            BathtubTides byMethod = Tubs.busy();
            check.same(texts[i], "executed 1", Tubs.verdict(byText, texts[i]));
            methods[i].of(byMethod);
            check.same("the state after " + texts[i], Check.all(byMethod), Check.all(byText));
        }
    }

    private static void endsTooEarly(Check check) {
        String[] words = {"hard", "soft", "bubble", "remove", "toe", "shave", "plug", "pull", "towel", "wring", "flow",
            "wait"};
        for (String word : words) {
            for (int length = 0; length < word.length(); length++) {
                check.same(word.substring(0, length), "malformed " + length, Tubs.verdict(word.substring(0, length)));
                check.same("after a command", "malformed " + (6 + length),
                        Tubs.verdict("toe 1;" + word.substring(0, length)));
            }
        }
        verdicts(check, new String[][] {{"flow -", "malformed 6"}, {"hard 1 1 ", "malformed 9"},
            {"toe 1;toe 2;toe 3;toe 4;plug 1;plug 1;plug 1;plug 1;wait 10;", "malformed 60"},
            {TWELVE + ";", "malformed 60"}, {SIXTY.substring(0, 59), "malformed 59"}});
    }

    private static void cannotContinue(Check check) {
        verdicts(check, new String[][] {{"x", "malformed 0"}, {"xx", "malformed 0"}, {"hx", "malformed 1"},
            {"harx 1 1 1", "malformed 3"}, {"hard 1 1 1x", "malformed 10"}, {"soa", "malformed 2"},
            {"tox", "malformed 2"}, {"towe 1", "malformed 4"}, {"pu1", "malformed 2"}, {"plul", "malformed 3"},
            {"shx;toe", "malformed 2"}, {"wrait", "malformed 2"}, {"toe 1;toe x;toe y", "malformed 10"},
            {"remove 9;x", "malformed 9"}, {SIXTY.substring(0, 59) + "x", "malformed 59"},
            {SIXTY.substring(0, 58) + "x1", "malformed 58"}});
    }

    private static void type(Sentences s) {
        s.of("Promise 49: type");
        s.says("Returns the number of characters in the buffer.", check -> {
            BathtubTides x = new BathtubTides();
            for (int count = 1; count <= 60; count++) {
                check.same("count", count, x.type('a'));
            }
            check.fails("malformed", ARGUMENT, () -> x.execute());
            check.same("from 1 again", 1, x.type('a'));
            check.fails("refused", ARGUMENT, () -> x.type((char) 31));
            check.same("a refused one does not count", 2, x.type('a'));
        });
        s.says("Throws `IllegalArgumentException` if the character is not from 32 to 126", check -> {
            for (char bad : new char[] {0, 9, 10, 31, 127, 128, 255, 0x7fff, 0x8000, 0xffff}) {
                check.refuses("character " + (int) bad, ARGUMENT, BathtubTides::new, x -> x.type(bad));
            }
            for (char good = 32; good <= 126; good++) {
                check.same("character " + (int) good, 1, new BathtubTides().type(good));
            }
            BathtubTides x = new BathtubTides();
            Check.type(x, SIXTY);
            check.fails("31 into a full buffer", ARGUMENT, () -> x.type((char) 31));
            check.fails("127 into a full buffer", ARGUMENT, () -> x.type((char) 127));
        });
        s.says("Throws `IllegalStateException` if the buffer contains 60 characters", check -> {
            BathtubTides x = new BathtubTides();
            Check.type(x, SIXTY.substring(0, 59));
            check.same("59 characters", 60, x.type('1'));
            for (char sign : new char[] {32, ';', 126}) {
                check.fails("60 characters", STATE, () -> x.type(sign));
            }
            check.same("none of them is in it", 6, x.execute());
            check.same("no characters", 1, x.type('1'));
        });
    }

    private static void execute(Sentences s) {
        s.of("Promise 50: execute");
        s.says("Executes the text in the buffer, which is empty afterwards.", check -> {
            BathtubTides x = new BathtubTides();
            check.same("an empty buffer", "malformed 0", Tubs.verdict(x, ""));
            check.same("is still empty", "executed 1", Tubs.verdict(x, "toe 1"));
            check.same("empty after a success", "malformed 2", Tubs.verdict(x, "to"));
            check.same("empty after a malformed text", "failed 0", Tubs.verdict(x, "toe 1"));
            check.same("empty after a failed command", "executed 1", Tubs.verdict(x, "toe 2"));
            check.same("a full buffer", "failed 5", Tubs.verdict(x, SIXTY));
            check.same("is empty, too", 1, x.type('t'));
        });
        s.says("The commands are executed in order, all of them or none: if a command fails, the effects of the commands "
                + "before it are taken back.", check -> {
                    String[] texts = {"pull;toe 1", "toe 1;pull", "toe 1;wait 60;plug 3;pull;pull",
                        "hard 1 1 1;towel 0 0;flow 3;wait 12;wring 3", "remove 0;remove 0;remove 0;remove 0"};
                    String[] due = {"failed 0", "failed 1", "failed 4", "failed 4", "failed 3"};
                    for (int i = 0; i < texts.length; i++) {
                        BathtubTides x = Tubs.busy();
                        x.pullPlug();
                        x.save();
                        x.restore();
                        String before = Check.all(x);
                        check.same(texts[i], due[i], Tubs.verdict(x, texts[i]));
                        check.same("taken back: " + texts[i], before, Check.all(x));
                        check.fails("nothing to undo", STATE, () -> x.undo());
                    }
                    check.same("in order", "executed 2", Tubs.verdict("plug 1;pull"));
                    check.same("not in another order", "failed 0", Tubs.verdict("pull;plug 1"));
                    BathtubTides x = new BathtubTides();
                    check.same("all of them", "executed 4", Tubs.verdict(x, "flow 3;wait 11;flow 1;wait 1"));
                    check.same("the last flow counts", 21, x.baseLevel());
                });
        s.says("A command fails if the method for it would throw an exception.", TextSentencesTest::failingCommands);
        s.says("Returns the number of commands.", check -> {
            check.same("one", 1, Check.execute(new BathtubTides(), "wait 1"));
            BathtubTides x = new BathtubTides();
            x.insertPlug(0);
            check.same("as many as do something", 10,
                    Check.execute(x, "pull;toe 0;toe 1;toe 2;toe 3;plug 0;pull;plug 0;pull;plug 0"));
        });
        s.says("Throws `IllegalArgumentException` if the text is malformed; its error position is stored", check -> {
            for (String text : new String[] {"", "x", "toe 1;", "toe 1;pull;x", "toe 111", TWELVE + ";"}) {
                BathtubTides x = Tubs.busy();
                String before = Check.all(x);
                Check.type(x, text);
                check.fails("'" + text + "'", ARGUMENT, () -> x.execute());
                check.same("its error position", text.equals("x") ? 0 : text.equals("toe 111") ? 6
                        : text.endsWith(";x") ? 11 : text.length(), x.errorPosition());
                check.fails("no failed command", NO_SUCH, () -> x.failedCommand());
                check.same("the state", before, Check.all(x));
            }
        });
        s.says("Throws `IllegalStateException` if a command fails; its index is stored", check -> {
            String[] texts = {"toe 4", "toe 1;toe 1", "pull;pull", TWELVE};
            int[] due = {0, 1, 1, 1};
            for (int i = 0; i < texts.length; i++) {
                String text = texts[i];
                BathtubTides x = Tubs.busy();
                check.fails(text, STATE, () -> Check.execute(x, text));
                check.same("its index", due[i], x.failedCommand());
                check.fails("no error position", NO_SUCH, () -> x.errorPosition());
            }
        });
    }

    private static void failingCommands(Check check) {
        String[] failing = {"hard 0 0 1", "hard 7 0 1", "hard 1 12 1", "hard 1 0 0", "hard 1 0 13", "soft 0 0 1",
            "soft 7 0 1", "soft 1 12 1", "soft 1 0 0", "soft 1 0 13", "bubble 0 0 1", "bubble 7 0 1", "bubble 1 12 1",
            "bubble 1 0 0", "bubble 1 0 13", "remove 0", "toe 12", "shave 12", "shave 0", "plug 12", "pull", "towel 12 0",
            "towel 0 61", "wring 0", "flow 4", "flow -4", "wait 0", "wait 61"};
        for (String text : failing) {
            check.same(text, "failed 0", Tubs.verdict(text));
        }
        String[] working = {"hard 1 0 1", "hard 6 11 12", "soft 1 0 1", "soft 6 11 12", "bubble 1 0 1", "bubble 6 11 12",
            "toe 0", "toe 11", "plug 0", "plug 11", "towel 0 0", "towel 11 60", "flow 3", "flow -3", "wait 1", "wait 60"};
        for (String text : working) {
            check.same(text, "executed 1", Tubs.verdict(text));
        }
        String[] failingWhenFull = {"hard 1 0 1", "soft 1 0 1", "bubble 1 0 1", "remove 5", "toe 0", "toe 1", "shave 0",
            "towel 1 0", "towel 0 0", "wring 4"};
        for (String text : failingWhenFull) {
            check.same(text + " in a full tub", "failed 0", Tubs.verdict(Tubs.full(), text));
        }
        String[] workingWhenFull = {"remove 4", "shave 1", "plug 5", "pull", "wring 3"};
        for (String text : workingWhenFull) {
            check.same(text + " in a full tub", "executed 1", Tubs.verdict(Tubs.full(), text));
        }
        check.same("the fifth moon", "executed 1", Tubs.verdict(Tubs.withMoons(4), "soft 1 0 1"));
        check.same("the fourth toe", "executed 1", Tubs.verdict(Tubs.withToes(3), "toe 11"));
        check.same("the fourth towel", "executed 1", Tubs.verdict(Tubs.withTowels(3), "towel 11 0"));
        check.same("what the commands before it left", "failed 2", Tubs.verdict(Tubs.withMoons(3), "soft 1 0 1;"
                + "hard 1 0 1;bubble 1 0 1"));
    }

    private static void errorPosition(Sentences s) {
        s.of("Promise 51: errorPosition");
        s.says("Returns the error position of the last malformed text.", check -> {
            BathtubTides x = new BathtubTides();
            Tubs.verdict(x, "toe x");
            check.same("the first", 4, x.errorPosition());
            check.same("asked again", 4, x.errorPosition());
            Tubs.verdict(x, "toe 1");
            check.same("a text that is executed changes nothing", 4, x.errorPosition());
            Tubs.verdict(x, "wait 0");
            check.same("nor does one that fails", 4, x.errorPosition());
            Tubs.verdict(x, "");
            check.same("the last, an empty text", 0, x.errorPosition());
            Tubs.verdict(x, TWELVE + ";");
            check.same("the last, as far as can be", 60, x.errorPosition());
        });
        s.says("Throws `NoSuchElementException` if no text was malformed so far", check -> {
            check.refuses("at first", NO_SUCH, BathtubTides::new, x -> x.errorPosition());
            BathtubTides x = new BathtubTides();
            Check.type(x, "x");
            check.fails("before it is executed", NO_SUCH, () -> x.errorPosition());
            BathtubTides y = new BathtubTides();
            Tubs.verdict(y, "toe 1");
            Tubs.verdict(y, "toe 1");
            check.fails("one was executed, one has failed", NO_SUCH, () -> y.errorPosition());
            Tubs.verdict(y, "");
            check.same("position 0 is one", 0, y.errorPosition());
        });
    }

    private static void failedCommand(Sentences s) {
        s.of("Promise 52: failedCommand");
        s.says("Returns the index of the command that failed in the last text that had one.", check -> {
            BathtubTides x = new BathtubTides();
            Tubs.verdict(x, "toe 1;toe 2;toe 1;toe 2");
            check.same("the first that fails", 2, x.failedCommand());
            Tubs.verdict(x, "toe 1");
            check.same("a text that is executed changes nothing", 2, x.failedCommand());
            Tubs.verdict(x, "wait 0;x");
            check.same("nor does a malformed one", 2, x.failedCommand());
            Tubs.verdict(x, "wait 0");
            check.same("the last text that had one", 0, x.failedCommand());
        });
        s.says("Returns the index of the command, from 0.", check -> {
            for (int index = 0; index <= 7; index++) {
                BathtubTides x = new BathtubTides();
                StringBuilder text = new StringBuilder();
                for (int i = 0; i < index; i++) {
                    text.append("flow 1;");
                }
                Tubs.verdict(x, text.append("pull").toString());
                check.same("index", index, x.failedCommand());
            }
            BathtubTides x = new BathtubTides();
            x.insertPlug(0);
            Tubs.verdict(x, "pull;plug 0;pull;plug 0;pull;plug 0;pull;plug 0;pull;pull");
            check.same("as far as can be", 9, x.failedCommand());
        });
        s.says("Throws `NoSuchElementException` if no command failed so far", check -> {
            check.refuses("at first", NO_SUCH, BathtubTides::new, x -> x.failedCommand());
            BathtubTides x = new BathtubTides();
            Tubs.verdict(x, "toe 1");
            Tubs.verdict(x, "toe");
            check.fails("a failed method is no failed command", STATE, () -> x.placeToe(1));
            check.fails("one was executed, one was malformed", NO_SUCH, () -> x.failedCommand());
            Tubs.verdict(x, "pull");
            check.same("index 0 is one", 0, x.failedCommand());
        });
    }
}
