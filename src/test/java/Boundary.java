import java.io.IOException;
import java.nio.file.Files;
import java.nio.file.Path;
import java.util.ArrayList;
import java.util.List;

/** The boundary cases of one promise: a test for each sentence of the document that names one. */
final class Boundary {
    private final int promise;
    private final String document;
    private final List<Check> tests = new ArrayList<>();

    Boundary(int promise) throws IOException {
        this.promise = promise;
        document = folded(Files.readString(Path.of("../shared/DOC.md")));
    }

    /** A test on a new object; a wrong answer in it is told with the promise and the sentence. */
    Check of(String sentence) {
        Check test = new Check("promise " + promise + ", \"" + sentence + "\"");
        // a sentence that the document does not have would test a promise of our own
        test.due("the document has this sentence", document.contains(folded(sentence)), true);
        tests.add(test);
        return test;
    }

    void end() {
        int wrong = 0;
        for (Check test : tests) {
            wrong += test.wrong();
        }
        if (wrong > 0 || tests.isEmpty()) {
            System.exit(1);
        }
    }

    private static String folded(String text) {
        return text.replaceAll("\\s+", " ");
    }
}
