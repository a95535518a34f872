import java.io.IOException;
import java.lang.reflect.Field;
import java.lang.reflect.Method;
import java.lang.reflect.Modifier;
import java.nio.file.Files;
import java.nio.file.Path;
import java.util.ArrayList;
import java.util.List;
import java.util.Set;
import java.util.regex.Matcher;
import java.util.regex.Pattern;

/** Those rules of ../shared/LANGUAGE.md that can be read off the program's text and classes, by their numbers. */
public final class LanguageTest {
    private static final Path PROGRAM = Path.of("src/main/java/StableFoundry.java");
    private static final Set<String> THROWN = Set.of("IllegalStateException", "IllegalArgumentException",
            "IndexOutOfBoundsException");
    private static final Set<String> CALLED = Set.of("Math.max", "Math.min", "Integer.bitCount", "Long.bitCount",
            "Long.compare");
    private static final Pattern THROW = Pattern.compile("throw new (\\w+)\\(\"[^\"]*\"\\);");
    private static final Pattern LIBRARY = Pattern.compile(
            "\\b(?:Math|Integer|Long|Short|Byte|Character|Boolean|String|System|Arrays|List|Objects|Thread|Double)[.]\\w+");
    private static final Pattern LEFT_OUT = Pattern.compile("->|::|\\b(?:package|import|assert|synchronized|native"
            + "|volatile|transient|try|catch|finally|float|double|instanceof|var|yield|goto|default [^:]*[{]"
            + "|hashCode|equals|toString|getClass|clone)\\b");
    private static final Pattern METHOD_BEGINS = Pattern.compile(" {4}(?: {4})?[\\w<].*[)](?: throws .*)? \\{|"
            + " {12}throws .* \\{");

    private final Checks checks = new Checks("LanguageTest");
    private final List<String> lines = Files.readAllLines(PROGRAM);
    private final String code = String.join("\n", lines).replaceAll("(?s)/[*][*].*?[*]/", "").replaceAll("// .*", "");

    private LanguageTest() throws IOException {
    }

    public static void main(String[] args) throws IOException {
        LanguageTest test = new LanguageTest();
        test.signs();
        test.words();
        test.library();
        test.exceptions();
        test.lengths();
        test.classes();
        test.checks.end();
    }

    private void signs() {
        for (String line : lines) {
            checks.due("rule 4: signs of 32 to 127 alone in " + line, line.chars().allMatch(sign -> sign >= 32 && sign < 128), true);
        }
    }

    private void words() {
        Matcher word = LEFT_OUT.matcher(code);
        checks.due("rules 1, 2, 4, 6: a word that is left out", word.find() ? word.group() : "none", "none");
    }

    private void library() {
        Matcher call = LIBRARY.matcher(code);
        while (call.find()) {
            checks.due("rule 4: " + call.group(), CALLED.contains(call.group()), true);
        }
    }

    private void exceptions() {
        int thrown = 0;
        Matcher matcher = THROW.matcher(code);
        while (matcher.find()) {
            thrown++;
            checks.due("rule 6: throws " + matcher.group(1), THROWN.contains(matcher.group(1)), true);
        }
        checks.due("rule 6: throws of another form", code.split("\\bthrow\\b", -1).length - 1, thrown);
    }

    /** A method ends with the brace that stands as far in as it began. */
    private void lengths() {
        int methods = 0;
        for (int line = 0; line < lines.size(); line++) {
            String begun = lines.get(line);
            if (METHOD_BEGINS.matcher(begun).matches()) {
                methods++;
                int end = line;
                while (!lines.get(end).matches(" {4}(?: {4})?[}]")) {
                    end++;
                }
                checks.due("rule 11: short is " + begun.trim(), end - line <= 60, true);
            }
        }
        checks.due("methods that were looked at", methods > 100, true);
    }

    private void classes() {
        List<Class<?>> all = new ArrayList<>(List.of(StableFoundry.class.getDeclaredClasses()));
        all.add(StableFoundry.class);
        checks.due("rule 11: some twelve classes", all.size() <= 12, true);
        for (Class<?> one : all) {
            int fields = 0;
            for (Field field : one.getDeclaredFields()) {
                boolean isStatic = Modifier.isStatic(field.getModifiers());
                fields += isStatic ? 0 : 1;
                checks.due("rule 5: " + field, !isStatic || Modifier.isFinal(field.getModifiers())
                        && (field.getType().isPrimitive() || field.getType() == String.class), true);
            }
            checks.due("rule 11: some twenty fields of " + one, fields <= 20, true);
            for (Method method : one.getDeclaredMethods()) {
                checks.due("rule 11: " + method, method.getParameterCount() <= 7, true);
            }
        }
    }
}
