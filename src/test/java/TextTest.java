import java.util.NoSuchElementException;
import java.util.regex.Matcher;
import java.util.regex.Pattern;

/** Promises 49 to 52: text. */
final class TextTest {
    private static final Class<IllegalArgumentException> ARGUMENT = IllegalArgumentException.class;
    private static final Class<IllegalStateException> STATE = IllegalStateException.class;
    private static final Class<NoSuchElementException> NO_SUCH = NoSuchElementException.class;
    private static final String[] WORDS = {"hard", "soft", "bubble", "remove", "toe", "shave", "plug", "pull", "towel",
        "wring", "flow", "wait"};
    private static final Check check = new Check("TextTest");

    public static void main(String[] args) {
        promise49Type();
        promise50EachCommand();
        promise50AllOrNone();
        promise50Failures();
        emptyAfterwards();
        promise51Positions();
        promise51EveryChange();
        promise52FailedCommand();
        check.close();
    }

    private static void promise49Type() {
        BathtubTides x = new BathtubTides();
        for (char bad : new char[] {0, 31, 127, 128, 255, 0xffff}) {
            check.fails("character " + (int) bad, ARGUMENT, () -> x.type(bad));
        }
        for (int i = 1; i <= 60; i++) {
            check.same("length", i, x.type((char) (i % 2 == 0 ? 32 : 126)));
        }
        check.fails("full", STATE, () -> x.type('a'));
        check.fails("the character comes first", ARGUMENT, () -> x.type((char) 31));
        check.fails("malformed", ARGUMENT, () -> x.execute());
        check.same("empty again", 1, x.type('a'));
        for (char good = 32; good <= 126; good++) {
            BathtubTides y = new BathtubTides();
            check.same("character " + (int) good, 1, y.type(good));
        }
    }

    private static void promise50EachCommand() {
        BathtubTides x = new BathtubTides();
        check.same("hard", 1, Check.execute(x, "hard 6 11 12"));
        check.same("soft", 1, Check.execute(x, "soft 1 0 1"));
        check.same("bubble", 1, Check.execute(x, "bubble 03 09 07"));
        check.same("moons", "h6@11 s1@0 b3@9", Check.moon(x, 0) + " " + Check.moon(x, 1) + " " + Check.moon(x, 2));
        check.same("remove", 1, Check.execute(x, "remove 1"));
        check.same("moons", "h6@11 b3@9 2", Check.moon(x, 0) + " " + Check.moon(x, 1) + " " + x.moonCount());
        check.same("wait", 1, Check.execute(x, "wait 7"));
        check.same("time", 7, x.time());
        check.same("the period of a moon", "h6@11 b1@10", Check.moon(x, 0) + " " + Check.moon(x, 1));
        check.same("toe", 1, Check.execute(x, "toe 10"));
        check.same("toe", true, x.hasToe(10));
        check.same("shave", 1, Check.execute(x, "shave 10"));
        check.same("toe", false, x.hasToe(10));
        check.same("plug", 1, Check.execute(x, "plug 04"));
        check.same("plug", 4, x.plugPosition());
        check.same("moved", 1, Check.execute(x, "plug 0"));
        check.same("plug", 0, x.plugPosition());
        check.same("pull", 1, Check.execute(x, "pull"));
        check.fails("plug", NO_SUCH, () -> x.plugPosition());
        check.same("towel", 1, Check.execute(x, "towel 5 0"));
        check.same("towel", "5 0", x.shoreOf(0) + " " + x.heightOf(0));
        check.same("flow", 1, Check.execute(x, "flow 3"));
        check.same("flow", 3, x.flow());
        check.same("flow", 1, Check.execute(x, "flow -3"));
        check.same("flow", -3, x.flow());
        check.same("flow", 1, Check.execute(x, "flow 01"));
        check.same("flow", 1, x.flow());
        check.same("flow", 1, Check.execute(x, "flow -0"));
        check.same("flow", 0, x.flow());
        check.same("wait", 1, Check.execute(x, "wait 60"));
        check.same("absorbed", "5 15", x.absorbedBy(0) + " " + x.baseLevel());
        check.same("wring", 1, Check.execute(x, "wring 0"));
        check.same("absorbed", "0 20", x.absorbedBy(0) + " " + x.baseLevel());
        check.same("many", 9, Check.execute(x, "toe 1;toe 2;toe 3;toe 4;shave 1;shave 2;shave 3;plug 1;pull"));
        check.same("toes", "false false false true",
                x.hasToe(1) + " " + x.hasToe(2) + " " + x.hasToe(3) + " " + x.hasToe(4));
    }

    private static void promise50AllOrNone() {
        BathtubTides x = new BathtubTides();
        Check.execute(x, "hard 3 1 4");
        x.layTowel(1, 0);
        x.setFlow(2);
        x.advance(13);
        String before = Check.all(x);
        check.fails("the last one fails", STATE,
                () -> Check.execute(x, "wait 60;wring 0;flow -1;toe 5;plug 3;remove 0;remove 0"));
        check.same("nothing of it", before, Check.all(x));
        check.fails("the last one is malformed", ARGUMENT, () -> Check.execute(x, "wait 60;wring 0;toe 5;plug"));
        check.same("nothing of it", before, Check.all(x));
        check.fails("malformed comes before failing", ARGUMENT, () -> Check.execute(x, "remove 9;"));
        check.same("nothing of it", before, Check.all(x));
        check.same("modifications", 3, x.undo());
        check.same("in order", 4, Check.execute(x, "soft 2 0 1;wait 12;remove 0;plug 8"));
        check.same("what came before counts", "s1@0", Check.moon(x, 0));
        check.same("one modification", 3, x.undo());
        check.same("the time before it", 0, x.time());
    }

    private static void promise50Failures() {
        String[] failing = {"hard 0 0 1", "hard 7 0 1", "hard 1 12 1", "hard 1 0 0", "hard 1 0 13", "soft 0 0 1",
            "soft 1 99 1", "bubble 1 0 13", "bubble 7 0 1", "remove 0", "remove 99", "toe 12", "toe 99", "shave 12",
            "shave 0", "plug 12", "plug 99", "pull", "towel 12 0", "towel 0 61", "towel 99 99", "wring 0", "wring 4",
            "flow 4", "flow -4", "flow 99", "flow -9", "wait 0", "wait 61", "wait 99", "wait 00",
            "toe 1;toe 1", "towel 1 1;towel 1 2", "plug 1;pull;pull", "toe 1;shave 1;shave 1",
            "toe 1;toe 2;toe 3;toe 4;toe 5", "towel 1 1;towel 2 1;towel 3 1;towel 4 1;towel 5 1",
            "hard 1 1 1;remove 1", "towel 1 1;wring 1"};
        for (String text : failing) {
            BathtubTides x = new BathtubTides();
            String before = Check.all(x);
            check.fails(text, STATE, () -> Check.execute(x, text));
            check.same(text, text.split(";").length - 1, x.failedCommand());
            check.fails(text, NO_SUCH, () -> x.errorPosition());
            check.same(text, before, Check.all(x));
            check.fails(text, STATE, () -> x.undo());
        }
        String[] fitting = {"hard 1 0 1", "hard 6 11 12", "soft 6 11 12", "bubble 6 11 12", "toe 0", "toe 11", "plug 11",
            "towel 11 60", "towel 0 0", "flow 3", "flow -3", "wait 1", "wait 60", "toe 1;shave 1", "plug 1;pull",
            "towel 1 1;wring 0", "hard 1 1 1;remove 0", "toe 1;toe 2;toe 3;toe 4",
            "towel 1 1;towel 2 1;towel 3 1;towel 4 1", "plug 1;plug 2", "flow -0"};
        for (String text : fitting) {
            BathtubTides x = new BathtubTides();
            check.same(text, text.split(";").length, Check.execute(x, text));
            check.same(text, 0, x.undo());
        }
        BathtubTides x = new BathtubTides();
        check.same("five moons", 5, Check.execute(x, "hard 1 1 1;hard 1 1 1;hard 1 1 1;hard 1 1 1;soft 1 1 1"));
        check.fails("six", STATE, () -> Check.execute(x, "bubble 1 1 1"));
        check.same("six commands", 6, Check.execute(x, "plug 1;pull;plug 2;pull;plug 3;pull"));
        BathtubTides y = new BathtubTides();
        y.insertPlug(0);
        check.fails("twelve commands", STATE,
                () -> Check.execute(y, "pull;pull;pull;pull;pull;pull;pull;pull;pull;pull;pull;pull"));
        check.same("the second", 1, y.failedCommand());
        check.same("ten commands", 10, Check.execute(y, "pull;toe 0;toe 1;toe 2;toe 3;plug 0;pull;plug 0;pull;plug 0"));
    }

    private static void emptyAfterwards() {
        BathtubTides x = new BathtubTides();
        Check.execute(x, "toe 1");
        check.same("after a success", 1, x.type('t'));
        check.fails("malformed", ARGUMENT, () -> x.execute());
        check.same("after a malformed text", 1, x.type('p'));
        Check.type(x, "ull");
        check.fails("fails", STATE, () -> x.execute());
        check.same("after a failed command", 1, x.type('p'));
        x.undo();
        check.same("undo leaves it", 2, x.type('u'));
        x.save();
        x.restore();
        check.same("save and restore leave it", 3, x.type('l'));
        x.advance(1);
        x.writeRim();
        check.same("others leave it", 4, x.type('l'));
        x.insertPlug(1);
        check.same("executed", 1, x.execute());
    }

    private static int errorOf(String text) {
        BathtubTides x = new BathtubTides();
        Check.type(x, text);
        try {
            x.execute();
        } catch (IllegalStateException failed) {
            return -2;
        } catch (IllegalArgumentException malformed) {
            return x.errorPosition();
        }
        return -1;
    }

    private static void promise51Positions() {
        Object[][] due = {
            {"", 0}, {"x", 0}, {" ", 0}, {";", 0}, {"H", 0}, {"h", 1}, {"hb", 1}, {"hard", 4}, {"hardx", 4},
            {"hard ", 5}, {"hard x", 5}, {"hard  1", 5}, {"hard -1 0 1", 5}, {"hard 1", 6}, {"hard 1;", 6},
            {"hard 1 0", 8}, {"hard 1 0 1 ", 10}, {"hard 1 0 1 2", 10}, {"hard 1 0 123", 11}, {"hard 123", 7},
            {"hard 1 0 1;", 11}, {"hard 1 0 1; ", 11}, {"hard 1 0 1,", 10}, {"s", 1}, {"sx", 1}, {"sof", 3},
            {"sha", 3}, {"sho", 2}, {"soa", 2}, {"t", 1}, {"to", 2}, {"tox", 2}, {"toe", 3}, {"tow", 3}, {"toel", 3},
            {"towel", 5}, {"towel 1", 7}, {"towel 1;", 7}, {"towel 1 1 1", 9}, {"p", 1}, {"pu", 2}, {"pl", 2},
            {"pl1", 2}, {"pull ", 4}, {"pull 1", 4}, {"pulls", 4}, {"pull;", 5}, {"pull;;", 5}, {"pull;pul", 8},
            {"plug", 4}, {"plug;", 4}, {"w", 1}, {"wr", 2}, {"wa", 2}, {"wi", 1}, {"wait", 4}, {"wait 1 1", 6},
            {"f", 1}, {"flow", 4}, {"flow ", 5}, {"flow -", 6}, {"flow -x", 6}, {"flow --1", 6}, {"flow -12", 7},
            {"flow - 1", 6}, {"flow -1 ", 7}, {"flow +1", 5}, {"flow 123", 7}, {"flow 1;flow -", 13}, {"wait -1", 5},
            {"toe -1", 4}, {"b", 1}, {"bubble 1 1", 10}, {"remove", 6}, {"r", 1}, {"rx", 1}, {" toe 1", 0},
            {"toe 1 ", 5}, {"toe 1;x", 6}, {"toe 1;toe", 9}, {"toe:", 3}, {"toe /", 4},
            {"toe 1/", 5}, {"toe 1:", 5}, {"toe :", 4}, {"wring 1", -2}, {"toe 1", -1}, {"toe 01;toe 2", -1},
            {"plug 1;pull", -1}, {"flow -1", -1}, {"pull", -2}, {"towel 1 1", -1}};
        for (Object[] pair : due) {
            check.same("'" + pair[0] + "'", pair[1], errorOf((String) pair[0]));
        }
        String longest = "hard 1 1 1;hard 1 1 1;hard 1 1 1;hard 1 1 1;wait 1;wait 12";
        check.same("58 characters", -1, errorOf(longest));
        check.same("it ends too early at 60", 60, errorOf("toe 1;toe 2;toe 3;toe 4;plug 1;plug 1;plug 1;plug 1;wait 10;"));
        check.same("twelve commands and a semicolon", 60,
                errorOf("pull;pull;pull;pull;pull;pull;pull;pull;pull;pull;pull;pull;"));

        BathtubTides x = new BathtubTides();
        check.fails("none so far", NO_SUCH, () -> x.errorPosition());
        Check.execute(x, "toe 1");
        check.fails("a well-formed text has none", NO_SUCH, () -> x.errorPosition());
        check.fails("failed", STATE, () -> Check.execute(x, "toe 1"));
        check.fails("a failed command is none", NO_SUCH, () -> x.errorPosition());
        check.fails("malformed", ARGUMENT, () -> Check.execute(x, "toe 1x"));
        check.same("stored", 5, x.errorPosition());
        Check.execute(x, "toe 2");
        x.undo();
        x.save();
        x.restore();
        check.same("kept", 5, x.errorPosition());
        check.fails("malformed", ARGUMENT, () -> x.execute());
        check.same("the last one", 0, x.errorPosition());
    }

    /** Every text that differs in one place from a valid one, against the grammar as a regular expression. */
    private static void promise51EveryChange() {
        String n = " [0-9][0-9]?";
        String command = "(?:(?:hard|soft|bubble)" + n + n + n + "|(?:remove|toe|shave|plug|wring|wait)" + n
                + "|pull|towel" + n + n + "|flow(?:" + n + "| -[0-9]))";
        Pattern grammar = Pattern.compile(command + "(?:;" + command + ")*");
        String[] valid = {"hard 6 0 12;toe 1", "soft 1 10 1;flow -2", "bubble 2 3 4;pull;wait 60", "remove 1;shave 3",
            "towel 0 20;plug 06", "wring 0;flow 12;flow 3", "pull;pull"};
        String signs = " ;-09ahlotwepsx~/:";
        for (String text : valid) {
            for (int i = 0; i <= text.length(); i++) {
                compare(grammar, text.substring(0, i));
                for (int j = 0; j < signs.length(); j++) {
                    compare(grammar, text.substring(0, i) + signs.charAt(j) + text.substring(i));
                    if (i < text.length()) {
                        compare(grammar, text.substring(0, i) + signs.charAt(j) + text.substring(i + 1));
                    }
                }
                if (i < text.length()) {
                    compare(grammar, text.substring(0, i) + text.substring(i + 1));
                }
            }
        }
        for (String first : WORDS) {
            for (String second : WORDS) {
                for (int cut = 1; cut <= first.length(); cut++) {
                    compare(grammar, first.substring(0, cut) + second);
                }
            }
        }
    }

    private static void compare(Pattern grammar, String text) {
        int due = -1;
        if (!grammar.matcher(text).matches()) {
            due = 0;
            while (due < text.length() && isBeginning(grammar, text.substring(0, due + 1))) {
                due++;
            }
        }
        int got = errorOf(text);
        check.same("'" + text + "'", due, got == -2 ? -1 : got);
    }

    private static boolean isBeginning(Pattern grammar, String text) {
        Matcher matcher = grammar.matcher(text);
        return matcher.matches() || matcher.hitEnd();
    }

    private static void promise52FailedCommand() {
        BathtubTides x = new BathtubTides();
        check.fails("none so far", NO_SUCH, () -> x.failedCommand());
        Check.execute(x, "toe 1");
        check.fails("none failed", ARGUMENT, () -> Check.execute(x, "toe"));
        check.fails("malformed is not failed", NO_SUCH, () -> x.failedCommand());
        check.fails("the third", STATE, () -> Check.execute(x, "toe 2;toe 3;toe 1;toe 1"));
        check.same("the first that fails", 2, x.failedCommand());
        Check.execute(x, "toe 2");
        check.fails("malformed", ARGUMENT, () -> Check.execute(x, "pull;"));
        x.undo();
        x.save();
        x.restore();
        check.same("kept", 2, x.failedCommand());
        check.fails("the first", STATE, () -> Check.execute(x, "pull"));
        check.same("the last text that had one", 0, x.failedCommand());
    }
}
