import java.util.ArrayList;
import java.util.LinkedHashSet;
import java.util.List;
import java.util.Set;

/** Runs one test for each sentence of the document that names a boundary case. The sentence is the test's name. */
final class Sentences {
    interface Test {
        void run(Check check);
    }

    private final String name;
    private final boolean runs;
    private final Set<String> told = new LinkedHashSet<>();
    private final List<String> failing = new ArrayList<>();
    private String section = "";

    private Sentences(String name, boolean runs) {
        this.name = name;
        this.runs = runs;
    }

    static Sentences run(String name) {
        return new Sentences(name, true);
    }

    /** Only lists the sentences that have a test. */
    static Sentences list() {
        return new Sentences("", false);
    }

    /** The part of the document in which the next sentences stand. */
    void of(String part) {
        section = part;
    }

    void says(String sentence, Test test) {
        String label = section + ": " + sentence;
        if (!told.add(label)) {
            failing.add(label + " (has two tests)");
        }
        if (!runs) {
            return;
        }
        Check check = new Check(label);
        try {
            test.run(check);
        } catch (RuntimeException thrown) {
            check.same("the whole test", "no exception", thrown);
        }
        if (!check.holds()) {
            failing.add(label);
        }
    }

    Set<String> told() {
        return told;
    }

    void close() {
        for (String label : failing) {
            System.out.println(name + ": FAILED SENTENCE: " + label);
        }
        System.out.println(name + ": " + (told.size() - failing.size()) + " of " + told.size() + " sentences hold");
        if (!failing.isEmpty() || told.isEmpty()) {
            System.exit(1);
        }
    }
}
