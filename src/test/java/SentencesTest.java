import java.io.IOException;
import java.lang.reflect.Method;
import java.nio.file.Files;
import java.nio.file.Path;
import java.util.ArrayList;
import java.util.List;

/**
 * Holds the boundary tests against ../shared/DOC.md, from its first line to its last: each sentence that they name
 * stands there, and each word there stands in a sentence that a test names. What is left out is the interface,
 * which FaceTest holds, and the few words by which nothing is asked of the program.
 */
public final class SentencesTest {
    private static final List<Class<?>> TESTS = List.of(BoundaryRulesTest.class, BoundaryAtomsTest.class,
            BoundaryAnswersTest.class, BoundaryReasonsTest.class);
    private static final List<String> FREE = List.of("A foundry of answer sets.", "what later calls answer is free.");
    private static final List<String> HEADINGS = List.of("# StableFoundry", "## What it is", "## The public face",
            "## Terms", "### Atoms and rules", "### Answers", "### Loops", "## Not promised");

    private final Checks checks = new Checks("SentencesTest");
    private final List<String> terms = new ArrayList<>();
    private final List<List<String>> promises = new ArrayList<>();

    public static void main(String[] args) throws IOException {
        SentencesTest test = new SentencesTest();
        test.read(Files.readAllLines(Path.of("../shared/DOC.md")));
        test.namedSentencesStandThere();
        test.wordsThereAreTested();
        test.checks.end();
    }

    private void read(List<String> document) {
        promises.add(terms);
        String heading = "";
        for (String line : document) {
            if (line.startsWith("#")) {
                heading = line;
                addHeading(heading);
            } else if (heading.startsWith("## Promise ")) {
                addPart(promises.get(promises.size() - 1), line);
            } else if (!heading.equals("## The public face") && !heading.equals("## Not promised")) {
                addSentences(line);
            }
        }
    }

    private void addHeading(String heading) {
        boolean isPromise = heading.startsWith("## Promise " + promises.size() + ": ");
        if (isPromise) {
            promises.add(new ArrayList<>());
        }
        checks.due("a heading that is read: " + heading, isPromise || HEADINGS.contains(heading), true);
    }

    /** What a promise tells, without the call's face ahead of it. */
    private static void addPart(List<String> promise, String line) {
        if (line.startsWith("`")) {
            promise.add(line.substring(line.indexOf("`: ") + 3));
        } else if (!line.isEmpty()) {
            promise.add(line);
        }
    }

    private void addSentences(String line) {
        if (!line.isEmpty() && !line.startsWith("Ahead of the calls")) {
            for (String sentence : line.split("(?<=[.]) (?=[A-Z])")) {
                terms.add(sentence);
            }
        }
    }

    private static List<Sentence> named() {
        List<Sentence> named = new ArrayList<>();
        for (Class<?> test : TESTS) {
            for (Method method : test.getDeclaredMethods()) {
                if (method.isAnnotationPresent(Sentence.class)) {
                    named.add(method.getAnnotation(Sentence.class));
                }
            }
        }
        return named;
    }

    private void namedSentencesStandThere() {
        checks.due("promises in the document", promises.size(), 36);
        for (Sentence sentence : named()) {
            boolean isThere = sentence.promise() < promises.size() && String.join(" ", promises.get(sentence.promise()))
                    .contains(sentence.value());
            checks.due("promise " + sentence.promise() + " says: " + sentence.value(), isThere, true);
        }
    }

    private void wordsThereAreTested() {
        List<Sentence> named = named();
        for (int number = 0; number < promises.size(); number++) {
            String all = String.join(" ", promises.get(number));
            boolean[] isTested = new boolean[all.length()];
            for (Sentence sentence : named) {
                if (sentence.promise() == number) {
                    mark(isTested, all, sentence.value());
                }
            }
            FREE.forEach(words -> mark(isTested, all, words));
            checks.due("promise " + number + " has no test for", untested(isTested, all), "");
        }
    }

    private static void mark(boolean[] isTested, String all, String words) {
        for (int at = all.indexOf(words); at >= 0; at = all.indexOf(words, at + 1)) {
            for (int i = at; i < at + words.length(); i++) {
                isTested[i] = true;
            }
        }
    }

    private static String untested(boolean[] isTested, String all) {
        StringBuilder untested = new StringBuilder();
        for (int i = 0; i < isTested.length; i++) {
            boolean isLeft = !isTested[i] && (Character.isLetterOrDigit(all.charAt(i)) || all.charAt(i) == ' ');
            untested.append(isLeft ? all.charAt(i) : "");
        }
        return untested.toString().trim();
    }
}
