import java.nio.file.Path;

/** Runs a test for each sentence of the document, or part of one, and sees that none is left out. */
final class Sentences {
    interface Test {
        void run();
    }

    private final Document document = new Document(Path.of("../shared/DOC.md"));
    private final Checks checks;
    private String section = "";

    Sentences(Checks checks) {
        this.checks = checks;
    }

    /** The sentences from now on stand in this section. */
    void in(String title) {
        section = title;
    }

    void hold(String words, Test test) {
        checks.by(words);
        checks.due("the document has these words in " + section, document.strike(section, words), true);
        int before = checks.made();
        test.run();
        checks.due("the test looks at something", checks.made() > before, true);
    }

    void nothingLeft(String title) {
        checks.by(title);
        checks.due("words without a test", document.rest(title), "");
    }
}
