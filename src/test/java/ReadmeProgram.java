import java.io.IOException;
import java.nio.file.Files;
import java.nio.file.Path;
import java.util.ArrayList;
import java.util.List;
import java.util.regex.Matcher;
import java.util.regex.Pattern;

/**
 * Makes programs of README.md: its class as it stands there, and ReadmeTest, which makes all its calls, each held
 * against the answer that is told behind it, and holds what the class prints against the text that follows it.
 */
public final class ReadmeProgram {
    private static final Pattern CLASS = Pattern.compile("public final class (\\w+) \\{");
    private static final Pattern DECLARED = Pattern.compile("\\w+ (\\w+) = (.*)");
    private static final Pattern ANSWERED = Pattern.compile("(.*?);\\s*// -> (throws \\w+|-?\\d+)(:.*)?");
    private static final String NEW_OBJECT = "StableFoundry foundry = new StableFoundry();";

    private final List<String> readme = Files.readAllLines(Path.of("README.md"));
    private final Path directory;
    private final List<String> calls = new ArrayList<>();
    private final List<String> printed = new ArrayList<>();
    private String name = "";
    private int parts;

    private ReadmeProgram(Path directory) throws IOException {
        this.directory = directory;
    }

    public static void main(String[] args) throws IOException {
        ReadmeProgram program = new ReadmeProgram(Path.of(args[0]));
        program.read();
        program.write();
    }

    private void read() throws IOException {
        for (int line = 0; line < readme.size(); line++) {
            int begin = line + 1;
            if (readme.get(line).startsWith("```")) {
                String kind = readme.get(line);
                line = endOf(begin);
                addBlock(kind, begin, line);
            }
        }
    }

    private int endOf(int begin) {
        int end = begin;
        while (!readme.get(end).equals("```")) {
            end++;
        }
        return end;
    }

    private void addBlock(String kind, int begin, int end) throws IOException {
        Matcher declared = CLASS.matcher(readme.get(begin));
        if (kind.equals("```text")) {
            printed.addAll(readme.subList(begin, end));
        } else if (!kind.equals("```java")) {
            throw new IllegalStateException("line " + begin + " of README.md begins a block of no kind");
        } else if (declared.matches()) {
            name = declared.group(1);
            Files.write(directory.resolve(name + ".java"), readme.subList(begin, end));
        } else {
            for (int line = begin; line < end; line++) {
                addLine(readme.get(line).trim(), "line " + (line + 1));
            }
        }
    }

    private void addLine(String line, String where) {
        Matcher answered = ANSWERED.matcher(line);
        if (line.equals(NEW_OBJECT)) {
            beginPart();
            calls.add(line);
        } else if (answered.matches()) {
            addAnswered(answered.group(1), answered.group(2), where);
        } else if (line.contains("->")) {
            throw new IllegalStateException(where + " of README.md tells no answer: " + line);
        } else {
            calls.add(line);
        }
    }

    private void beginPart() {
        if (parts > 0) {
            calls.add("}");
        }
        calls.add("private void part" + parts + "() {");
        parts++;
    }

    private void addAnswered(String call, String answer, String where) {
        Matcher declared = DECLARED.matcher(call);
        String what = "\"" + where + ", " + call + "\"";
        if (answer.startsWith("throws ")) {
            calls.add("checks.due(" + what + ", Checks.done(() -> " + call + "), \"" + answer.substring(7) + "\");");
        } else if (declared.matches()) {
            calls.add(call + ";");
            calls.add("checks.due(" + what + ", " + declared.group(1) + ", " + answer + ");");
        } else {
            calls.add("checks.due(" + what + ", Checks.told(() -> " + call + "), " + answer + ");");
        }
    }

    private void write() throws IOException {
        List<String> test = new ArrayList<>(List.of("public final class ReadmeTest {",
                "private final Checks checks = new Checks(\"ReadmeTest\");",
                "public static void main(String[] args) {", "ReadmeTest test = new ReadmeTest();"));
        for (int part = 0; part < parts; part++) {
            test.add("test.part" + part + "();");
        }
        test.add("test.checks.due(\"what " + name + " prints\", Checks.printed(() -> " + name
                + ".main(new String[0])), \"" + String.join("\\n", printed) + "\\n\");");
        test.add("test.checks.end();");
        test.add("}");
        test.addAll(calls);
        test.add("}");
        test.add("}");
        Files.write(directory.resolve("ReadmeTest.java"), test);
    }
}
