import java.io.IOException;
import java.nio.file.Files;
import java.nio.file.Path;

/** Boundary cases by the sentence of the document that names them: each has a test of its own. */
final class Edges {
    private static final int PROMISES = 48;
    private final String[] sections = new String[PROMISES + 1];
    private final int[] tests = new int[PROMISES + 1];
    private final boolean hasDocument;

    /** Section 0 is what stands ahead of the promises: the terms. */
    Edges() throws IOException {
        Path document = Path.of("../shared/DOC.md");
        hasDocument = Files.exists(document);
        if (!hasDocument) {
            System.out.println("no " + document + ": nobody looks whether it names these cases");
            return;
        }
        String[] parts = Files.readString(document).split("## (Promise \\d+: .*|Not promised)");
        for (int promise = 0; promise <= PROMISES; promise++) {
            sections[promise] = promise < parts.length ? parts[promise] : "";
        }
    }

    void term(String sentence, Runnable test) {
        edge(0, sentence, test);
    }

    void edge(int promise, String sentence, Runnable test) {
        Check.under((promise == 0 ? "terms" : "promise " + promise) + ", '" + sentence + "'");
        if (hasDocument) {
            Check.due("the document says so", sections[promise].contains(sentence), true);
        }
        tests[promise]++;
        int before = Check.asked();
        try {
            test.run();
        } catch (RuntimeException e) {
            Check.same("an exception", e.toString(), "none");
        }
        Check.due("something was asked", Check.asked() > before, true);
        Check.under("");
    }

    /** Ends the test, if each of these promises has one at least. */
    void finish(int from, int to) {
        for (int promise = from; promise <= to; promise++) {
            Check.due("promise " + promise + " has a test", tests[promise] > 0, true);
        }
        Check.finish();
    }
}
