import java.io.IOException;
import java.lang.reflect.Method;
import java.nio.file.Files;
import java.nio.file.Path;
import java.util.ArrayList;
import java.util.List;

/**
 * Holds the boundary tests against ../shared/DOC.md: each sentence that they name stands there, and each sentence
 * of the promises and of the terms ahead of them has a test of its own.
 */
public final class SentencesTest {
    private static final List<Class<?>> TESTS = List.of(BoundaryRulesTest.class, BoundaryAtomsTest.class,
            BoundaryAnswersTest.class, BoundaryReasonsTest.class);

    private final Checks checks = new Checks("SentencesTest");
    private final List<String> terms = new ArrayList<>();
    private final List<List<String>> promises = new ArrayList<>();

    public static void main(String[] args) throws IOException {
        SentencesTest test = new SentencesTest();
        test.read(Files.readAllLines(Path.of("../shared/DOC.md")));
        test.namedSentencesStandThere();
        test.sentencesThereAreTested();
        test.checks.end();
    }

    private void read(List<String> document) {
        promises.add(terms);
        String heading = "";
        for (String line : document) {
            if (line.startsWith("#")) {
                heading = line;
                if (heading.startsWith("## Promise ")) {
                    promises.add(new ArrayList<>());
                }
            } else if (heading.startsWith("## Promise ")) {
                addPart(promises.get(promises.size() - 1), line);
            } else if (heading.startsWith("## What it is") || heading.startsWith("### ")) {
                addSentences(line);
            }
        }
    }

    /** What a promise tells, without the call's face ahead of it. */
    private static void addPart(List<String> promise, String line) {
        if (line.startsWith("`")) {
            promise.add(line.substring(line.indexOf("`: ") + 3));
        } else if (!line.isEmpty()) {
            promise.add(line);
        }
    }

    /** The interface's comments and the one line that says what it is hold nothing that could be tested. */
    private void addSentences(String line) {
        if (!line.isEmpty() && !line.startsWith("Ahead of the calls") && !line.equals("A foundry of answer sets.")) {
            for (String sentence : line.split("(?<=[.]) (?=[A-Z])")) {
                terms.add(sentence);
            }
        }
    }

    private static List<Sentence> named() {
        List<Sentence> named = new ArrayList<>();
        for (Class<?> test : TESTS) {
            for (Method method : test.getDeclaredMethods()) {
                if (method.isAnnotationPresent(Sentence.class)) {
                    named.add(method.getAnnotation(Sentence.class));
                }
            }
        }
        return named;
    }

    private void namedSentencesStandThere() {
        checks.due("promises in the document", promises.size(), 36);
        for (Sentence sentence : named()) {
            boolean isThere = sentence.promise() < promises.size()
                    && promises.get(sentence.promise()).stream().anyMatch(part -> part.contains(sentence.value()));
            checks.due("promise " + sentence.promise() + " says: " + sentence.value(), isThere, true);
        }
    }

    private void sentencesThereAreTested() {
        List<Sentence> named = named();
        for (int number = 0; number < promises.size(); number++) {
            for (String part : promises.get(number)) {
                int promise = number;
                boolean isTested = named.stream()
                        .anyMatch(sentence -> sentence.promise() == promise && part.contains(sentence.value()));
                checks.due("promise " + number + " has a test for: " + part, isTested, true);
            }
        }
    }
}
