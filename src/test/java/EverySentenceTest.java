import java.io.IOException;
import java.nio.file.Files;
import java.nio.file.Path;
import java.util.ArrayList;
import java.util.LinkedHashSet;
import java.util.List;
import java.util.Set;
import java.util.TreeSet;

/** Every sentence of the document's terms and promises has a test of its own, or names no boundary case. */
final class EverySentenceTest {
    private static final Path DOCUMENT = Path.of("..", "shared", "DOC.md");
    private static final Check check = new Check("EverySentenceTest");

    /** They say what a call is for, or repeat what another sentence of the same promise says with its bounds. */
    private static final Set<String> NO_BOUNDARY = Set.of(
            "A simulator and predictor of the tides in a round bathtub.",
            "The class predicts tides, eclipses and conjunctions (tides and conjunctions in two ways each), balances all "
                    + "water, executes command texts, and supports undo and snapshots.",
            "`moon`: number of the moon", "`moon`: number of a moon", "`other`: number of a moon",
            "`towel`: number of the towel", "`character`: the character",
            "Adds a hard moon.", "Adds a soft moon.", "Adds a bubble moon.", "Removes a moon.",
            "Returns the position of a moon.", "Returns the mass of a moon.", "Returns the age of a moon.",
            "Returns whether a moon is hard.", "Returns whether a moon is soft.", "Returns whether a moon is eclipsed.",
            "Returns its mass.", "Places a toe.", "Removes a toe.",
            "Returns whether there is a toe at a position.", "Returns whether there is a toe.", "Removes the plug.",
            "Returns the position of the plug.", "Lays a towel.", "Removes a towel.", "Returns the position of a towel.",
            "Returns the height of a towel.", "Returns its height.", "Returns the water that a towel has absorbed.",
            "Returns the number of floods.", "Sets the flow of the taps.", "Lets minutes pass.", "Returns the time.",
            "Returns the flow of the taps.", "Returns the tide at a position now.", "Returns the level at a position now.",
            "Returns the level.", "Returns the position.", "Returns the tide.",
            "Returns the number of minutes until a moon is eclipsed.",
            "Returns the number of minutes until two moons are at the same position, by trying minute after minute.",
            "Returns the number of minutes.", "Returns the character.", "Returns the mean level of the rim.",
            "Returns the share of the moons that are eclipsed.", "Returns whether this holds.",
            "Appends a character to the text buffer.", "Returns the error position.");

    /** Said of several promises, but a boundary case of some of them alone. */
    private static final Set<String> NO_BOUNDARY_THERE = Set.of(
            "Promise 7: positionOf: Returns its position.", "Promise 18: plugPosition: Returns its position.",
            "Promise 23: shoreOf: Returns its position.", "Promise 32: spilled: Returns the units of water.");

    private EverySentenceTest() {
    }

    public static void main(String[] args) throws IOException {
        Sentences tests = Sentences.list();
        TermsSentencesTest.tell(tests);
        MoonSentencesTest.tell(tests);
        ShoreSentencesTest.tell(tests);
        WaterSentencesTest.tell(tests);
        PredictionSentencesTest.tell(tests);
        LineSentencesTest.tell(tests);
        TextSentencesTest.tell(tests);
        UndoSentencesTest.tell(tests);
        Set<String> said = sentences(Files.readString(DOCUMENT));
        for (String label : said) {
            boolean none = NO_BOUNDARY.contains(label.substring(partLength(label)))
                    || NO_BOUNDARY_THERE.contains(label);
            check.same("a test of \"" + label + "\"", true, none != tests.told().contains(label));
        }
        Set<String> notSaid = new TreeSet<>(tests.told());
        notSaid.removeAll(said);
        check.same("sentences of the tests that the document does not say", Set.of(), notSaid);
        check.close();
    }

    /** The part of the document stands before the sentence: "Terms, Rim: " or "Promise 2: addHardMoon: ". */
    private static int partLength(String label) {
        int from = label.startsWith("Promise ") ? label.indexOf(": ") + 2 : 0;
        return label.indexOf(": ", from) + 2;
    }

    private static Set<String> sentences(String document) {
        Set<String> sentences = new LinkedHashSet<>();
        String heading = "";
        String part = "";
        for (String block : document.split("\n\\s*\n")) {
            if (block.startsWith("#")) {
                heading = block.replaceFirst("^#+ ", "").strip();
                part = heading;
            } else if (heading.equals("What it is") || heading.equals("Terms") || heading.startsWith("Promise ")) {
                for (String sentence : split(block)) {
                    if (heading.equals("Terms") && sentence.matches("[A-Z][a-z]+\\.")) {
                        part = "Terms, " + sentence.substring(0, sentence.length() - 1);
                    } else if (!sentence.startsWith("Ahead of the calls ")) {
                        sentences.add(part + ": " + sentence);
                    }
                }
            }
        }
        return sentences;
    }

    private static List<String> split(String block) {
        List<String> sentences = new ArrayList<>();
        for (String item : block.split("\n(?=- )")) {
            String text = item.replaceAll("\\s+", " ").strip();
            text = text.replaceFirst("^- ", "").replaceFirst("^`[^`]*\\([^`]*`: ", "");
            sentences.addAll(List.of(text.split("(?<=\\.) (?=[A-Z])")));
        }
        return sentences;
    }
}
