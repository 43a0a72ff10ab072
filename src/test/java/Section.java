import java.util.ArrayList;
import java.util.List;

/** A section of the document, sentence by sentence, with the tests that hold its sentences. */
final class Section {
    private record Held(String sentence, Runnable[] tests) {
    }

    private final String title;
    private final List<Held> held = new ArrayList<>();
    private final List<String> others = new ArrayList<>();

    /** The title is the document's. */
    Section(String title) {
        this.title = title;
    }

    /** A sentence in the document's words, and the tests that hold it. */
    Section holds(String sentence, Runnable... tests) {
        held.add(new Held(sentence, tests));
        return this;
    }

    /** Words that promise nothing, or nothing that is not held by the other sentences' tests. */
    Section ordinary(String... sentences) {
        others.addAll(List.of(sentences));
        return this;
    }

    String title() {
        return title;
    }

    /** All that the document says in this section, as far as this knows. */
    List<String> sentences() {
        List<String> all = new ArrayList<>(others);
        held.forEach(sentence -> all.add(sentence.sentence));
        return all;
    }

    void run() {
        for (Held one : held) {
            int before = Check.wrong();
            for (Runnable test : one.tests) {
                run(test);
            }
            if (Check.wrong() > before) {
                System.out.println("-- does not hold: " + title + ": " + one.sentence);
            }
        }
        Check.finish();
    }

    /** A call that throws is wrong, and does not keep the other sentences from their tests. */
    private static void run(Runnable test) {
        try {
            test.run();
        } catch (RuntimeException | StackOverflowError thrown) {
            Check.threw(thrown);
        }
    }
}
