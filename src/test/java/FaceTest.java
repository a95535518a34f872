import java.lang.reflect.Constructor;
import java.lang.reflect.Field;
import java.lang.reflect.Method;
import java.lang.reflect.Modifier;
import java.util.Arrays;
import java.util.Set;
import java.util.TreeSet;

/** The public face is the document's, and no more than that can be seen from outside. */
public final class FaceTest {
    private static final String INDEX = "java.lang.IndexOutOfBoundsException";
    private static final String ARGUMENT = "java.lang.IllegalArgumentException";
    private static final String STATE = "java.lang.IllegalStateException";

    private final Checks checks = new Checks("FaceTest");
    private final Set<String> told = new TreeSet<>();

    public static void main(String[] args) {
        FaceTest test = new FaceTest();
        test.methods();
        test.rest();
        test.checks.end();
    }

    private void method(String face, String... exceptions) {
        told.add(face + (exceptions.length > 0 ? " throws " + String.join(",", exceptions) : ""));
    }

    private void methods() {
        method("public int StableFoundry.predicate(int)", ARGUMENT, STATE);
        method("public int StableFoundry.head(int,int,int)", INDEX, ARGUMENT, STATE);
        method("public void StableFoundry.choice(int,int)", ARGUMENT, STATE);
        method("public void StableFoundry.weak(int,int)", INDEX, STATE);
        method("public void StableFoundry.difference(int,int,int)", INDEX, ARGUMENT, STATE);
        method("public int StableFoundry.body(int,int,int,boolean)", INDEX, ARGUMENT, STATE);
        method("public int StableFoundry.compare(int,int,int)", ARGUMENT, STATE);
        method("public void StableFoundry.interval(int,int,int)", ARGUMENT);
        method("public void StableFoundry.sum(int,int)", ARGUMENT, STATE);
        method("public int StableFoundry.element(int,int,int,int)", INDEX, ARGUMENT, STATE);
        method("public void StableFoundry.drop()");
        method("public int StableFoundry.enter()", ARGUMENT, STATE);
        method("public int StableFoundry.external(int,int,int)", INDEX, ARGUMENT, STATE);
        method("public int StableFoundry.assign(int,int)", INDEX, ARGUMENT, STATE);
        method("public int StableFoundry.prefer(int,int)", INDEX, ARGUMENT, STATE);
        method("public int StableFoundry.atom(int,int,int)", INDEX, ARGUMENT);
        method("public int StableFoundry.ground()");
        method("public int StableFoundry.groundAnew()");
        method("public int StableFoundry.instance(int)", INDEX);
        method("public int StableFoundry.answers()");
        method("public int StableFoundry.answersAnew()");
        method("public int StableFoundry.answer(int)", INDEX);
        method("public int StableFoundry.assuming(int,int)", ARGUMENT);
        method("public int StableFoundry.conflict(int,int)", ARGUMENT);
        method("public long StableFoundry.cost(int,int)", INDEX);
        method("public int StableFoundry.rank(int)", INDEX);
        method("public int StableFoundry.projected(int)", ARGUMENT);
        method("public int StableFoundry.brave()");
        method("public int StableFoundry.cautious()");
        method("public int StableFoundry.value(int,int)", INDEX);
        method("public int StableFoundry.support(int,int)", INDEX);
        method("public int StableFoundry.bar(int)", INDEX);
        method("public int StableFoundry.loop(int)", INDEX);
        method("public int StableFoundry.unfounded(int)", ARGUMENT);
        Set<String> seen = new TreeSet<>();
        Set<String> names = new TreeSet<>();
        for (Method method : StableFoundry.class.getDeclaredMethods()) {
            if (!Modifier.isPrivate(method.getModifiers())) {
                seen.add(method.toGenericString());
                names.add(method.getName());
            }
        }
        checks.due("the methods", String.join("\n", seen), String.join("\n", told));
        for (Class<?> inside : StableFoundry.class.getDeclaredClasses()) {
            for (Method method : inside.getDeclaredMethods()) {
                checks.due(inside + " " + method + " bears a public name", names.contains(method.getName()), false);
            }
        }
        for (Method method : StableFoundry.class.getDeclaredMethods()) {
            boolean isHidden = Modifier.isPrivate(method.getModifiers());
            checks.due(method + " bears a public name", isHidden && names.contains(method.getName()), false);
        }
    }

    private void rest() {
        checks.due("the class", Modifier.toString(StableFoundry.class.getModifiers()), "public final");
        Constructor<?>[] constructors = StableFoundry.class.getDeclaredConstructors();
        checks.due("the constructor", Arrays.toString(constructors), "[public StableFoundry()]");
        for (Field field : StableFoundry.class.getDeclaredFields()) {
            int modifiers = field.getModifiers();
            if (field.getName().equals("NONE")) {
                checks.due("NONE", Modifier.toString(modifiers), "public static final");
            } else {
                checks.due(field + " is private", Modifier.isPrivate(modifiers), true);
                checks.due(field + " is final if static", !Modifier.isStatic(modifiers) || Modifier.isFinal(modifiers),
                        true);
            }
        }
        for (Class<?> inside : StableFoundry.class.getDeclaredClasses()) {
            checks.due(inside + " is static", Modifier.isStatic(inside.getModifiers()), true);
            checks.due(inside + " is private", Modifier.isPrivate(inside.getModifiers()), true);
        }
    }
}
