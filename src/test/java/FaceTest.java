import java.io.IOException;
import java.lang.reflect.Constructor;
import java.lang.reflect.Field;
import java.lang.reflect.Method;
import java.lang.reflect.Modifier;
import java.nio.file.Files;
import java.nio.file.Path;
import java.util.ArrayList;
import java.util.Arrays;
import java.util.List;
import java.util.Set;
import java.util.TreeSet;
import java.util.regex.Matcher;
import java.util.regex.Pattern;

/** The public face is the one that ../shared/DOC.md tells, and no more than that can be seen from outside. */
public final class FaceTest {
    private static final Path DOCUMENT = Path.of("../shared/DOC.md");
    private static final Path PROGRAM = Path.of("src/main/java/StableFoundry.java");
    private static final Path README = Path.of("README.md");
    private static final Pattern METHOD = Pattern.compile("public (\\w+) (\\w+)\\((.*)\\)(?: throws (.*))?;");
    private static final Pattern PROMISED = Pattern.compile("`(\\w.*)`: .*");
    private static final Pattern AHEAD = Pattern.compile("Ahead of the calls (.*) the interface says: ---- (.*)[.]");
    private static final Pattern CALL = Pattern.compile("    public \\w+ (\\w+)\\(.*");

    private final Checks checks = new Checks("FaceTest");
    private final List<String> document = Files.readAllLines(DOCUMENT);
    private final List<String> program = Files.readAllLines(PROGRAM);
    private final List<String> face = new ArrayList<>();

    private FaceTest() throws IOException {
    }

    public static void main(String[] args) throws IOException {
        FaceTest test = new FaceTest();
        test.readFace();
        test.methods();
        test.names();
        test.declarations();
        test.sections();
        test.readme();
        test.rest();
        test.checks.end();
    }

    private void readFace() {
        int begin = document.indexOf("public final class StableFoundry {");
        for (int line = begin + 1; !document.get(line).equals("}"); line++) {
            face.add(document.get(line).trim());
        }
        checks.due("the face begins with", face.subList(0, 2),
                List.of("public static final int NONE = -1;", "public StableFoundry();"));
        checks.due("the constant, the constructor and the methods of the face", face.size(), 36);
    }

    /** A method of the face as reflection tells it. */
    private static String reflected(String declaration) {
        Matcher method = METHOD.matcher(declaration);
        if (!method.matches()) {
            return "no method: " + declaration;
        }
        String types = method.group(3).replaceAll("(\\w+) \\w+", "$1").replace(", ", ",");
        String thrown = method.group(4) == null ? "" : " throws java.lang."
                + method.group(4).replace(", ", ",java.lang.");
        return "public " + method.group(1) + " StableFoundry." + method.group(2) + "(" + types + ")" + thrown;
    }

    private void methods() {
        Set<String> told = new TreeSet<>();
        for (String declaration : face.subList(2, face.size())) {
            told.add(reflected(declaration));
        }
        Set<String> seen = new TreeSet<>();
        for (Method method : StableFoundry.class.getDeclaredMethods()) {
            if (!Modifier.isPrivate(method.getModifiers())) {
                seen.add(method.toGenericString());
            }
        }
        checks.due("the methods", String.join("\n", seen), String.join("\n", told));
    }

    private void names() {
        Set<String> names = new TreeSet<>();
        for (String declaration : face.subList(2, face.size())) {
            names.add(declaration.replaceAll("public \\w+ (\\w+).*", "$1"));
        }
        checks.due("names of the face", names.size(), 34);
        for (Class<?> inside : StableFoundry.class.getDeclaredClasses()) {
            for (Method method : inside.getDeclaredMethods()) {
                checks.due(inside + " " + method + " bears a public name", names.contains(method.getName()), false);
            }
        }
        for (Method method : StableFoundry.class.getDeclaredMethods()) {
            boolean isHidden = Modifier.isPrivate(method.getModifiers());
            checks.due(method + " bears a public name", isHidden && names.contains(method.getName()), false);
        }
    }

    /** The face's lines and those of the promises stand in the program, with the names of what is given. */
    private void declarations() {
        String text = String.join("\n", program).replaceAll("\\s+", " ");
        List<String> told = new ArrayList<>(face.subList(1, face.size()));
        for (String line : document) {
            Matcher promised = PROMISED.matcher(line);
            if (promised.matches() && promised.group(1).contains("(")) {
                told.add("public " + promised.group(1) + ";");
            }
        }
        checks.due("declarations of the face and of the promises", told.size(), 70);
        for (String declaration : told) {
            String begun = declaration.replace(";", " {");
            checks.due("the program declares " + begun, text.contains(begun), true);
        }
    }

    private void sections() {
        int told = 0;
        for (String line : document) {
            Matcher ahead = AHEAD.matcher(line);
            if (ahead.matches()) {
                told++;
                checks.due("the calls under ---- " + ahead.group(2), callsUnder("    // ---- " + ahead.group(2)),
                        Arrays.asList(ahead.group(1).replace("`", "").split(", ")));
            }
        }
        checks.due("sections of the interface", told, 4);
    }

    private List<String> callsUnder(String section) {
        List<String> calls = new ArrayList<>();
        boolean isUnder = false;
        for (String line : program) {
            Matcher call = CALL.matcher(line);
            if (line.startsWith("    // ---- ")) {
                isUnder = line.equals(section);
            } else if (isUnder && call.matches()) {
                calls.add(call.group(1));
            }
        }
        return calls;
    }

    /** A call's row in README.md tells its arguments by their names, and all its exceptions. */
    private void readme() throws IOException {
        List<String> rows = Files.readAllLines(README);
        for (String declaration : face.subList(2, face.size())) {
            Matcher method = METHOD.matcher(declaration);
            checks.due("a method: " + declaration, method.matches(), true);
            String call = "| `" + method.group(2) + "(" + method.group(3).replaceAll("\\w+ (\\w+)", "$1") + ")` |";
            String thrown = method.group(4) == null ? "" : method.group(4).replace("IndexOutOfBoundsException", "Index")
                    .replaceAll("Illegal(\\w+)Exception", "$1") + " ";
            checks.due("rows of README.md for " + call, rows.stream().filter(row -> row.startsWith(call)).count(), 1);
            checks.due("rows of README.md for " + call + " that end with " + thrown, rows.stream()
                    .filter(row -> row.startsWith(call) && row.endsWith("| " + thrown + "|")).count(), 1);
        }
        checks.due("rows of README.md for calls", rows.stream().filter(row -> row.matches("[|] `\\w+[(].*")).count(), 34);
    }

    private void rest() {
        checks.due("the class", Modifier.toString(StableFoundry.class.getModifiers()), "public final");
        Constructor<?>[] constructors = StableFoundry.class.getDeclaredConstructors();
        checks.due("the constructor", Arrays.toString(constructors), "[public StableFoundry()]");
        checks.due("NONE", StableFoundry.NONE, -1);
        for (Field field : StableFoundry.class.getDeclaredFields()) {
            int modifiers = field.getModifiers();
            if (field.getName().equals("NONE")) {
                checks.due("NONE", Modifier.toString(modifiers) + " " + field.getType(), "public static final int");
            } else {
                checks.due(field + " is private", Modifier.isPrivate(modifiers), true);
                checks.due(field + " is final if static", !Modifier.isStatic(modifiers) || Modifier.isFinal(modifiers),
                        true);
            }
        }
        for (Class<?> inside : StableFoundry.class.getDeclaredClasses()) {
            checks.due(inside + " is static", Modifier.isStatic(inside.getModifiers()), true);
            checks.due(inside + " is private", Modifier.isPrivate(inside.getModifiers()), true);
        }
    }
}
