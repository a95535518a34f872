import java.lang.reflect.InvocationTargetException;
import java.lang.reflect.Method;
import java.util.Arrays;
import java.util.Comparator;

/** What the boundary tests share: their methods that hold a sentence are run, each by its name. */
abstract class Boundaries {
    static final String INDEX = "IndexOutOfBoundsException";
    static final String ARGUMENT = "IllegalArgumentException";
    static final String STATE = "IllegalStateException";
    static final int LOW = Integer.MIN_VALUE;
    static final int HIGH = Integer.MAX_VALUE;
    static final int Z = -5;

    private final Checks checks = new Checks(getClass().getSimpleName());
    private String test = "";

    interface Steps {
        void on(StableFoundry foundry);
    }

    interface Call {
        Object on(StableFoundry foundry);
    }

    /** A call of an atom's predicate and its two places. */
    interface AtomCall {
        Object on(StableFoundry foundry, int predicate, int first, int second);
    }

    final void run() {
        Method[] methods = getClass().getDeclaredMethods();
        Arrays.sort(methods, Comparator.comparing(Method::getName));
        for (Method method : methods) {
            if (method.isAnnotationPresent(Sentence.class)) {
                test = method.getName();
                run(method);
            }
        }
        checks.end();
    }

    private void run(Method method) {
        try {
            method.invoke(this);
        } catch (InvocationTargetException e) {
            checks.due(test, e.getCause(), "no exception out of the test");
        } catch (IllegalAccessException e) {
            checks.due(test, e, "a test that can be called");
        }
    }

    static String told(StableFoundry foundry, Call call) {
        return Checks.told(() -> call.on(foundry));
    }

    static Call doing(Steps steps) {
        return foundry -> {
            steps.on(foundry);
            return "done";
        };
    }

    /** A new object with predicates of so many places. */
    final Given given(int... places) {
        return new Given(foundry -> {
            for (int count : places) {
                foundry.predicate(count);
            }
        });
    }

    /** An object that is made anew, by the same steps, for each thing that is asked of it. */
    final class Given {
        private final Steps steps;

        private Given(Steps steps) {
            this.steps = steps;
        }

        Given and(Steps more) {
            return new Given(foundry -> {
                steps.on(foundry);
                more.on(foundry);
            });
        }

        private StableFoundry made() {
            StableFoundry foundry = new StableFoundry();
            steps.on(foundry);
            return foundry;
        }

        void answers(Object want, Call call) {
            checks.due(test, told(made(), call), want);
        }

        void lets(Steps call) {
            answers("done", doing(call));
        }

        void refusesToDo(String exception, Steps call) {
            refuses(exception, doing(call));
        }

        /**
         * The call throws the exception, and then the object answers whatever is asked as does one that never
         * got the call: if nothing was asked before, and if answers were found before.
         */
        void refuses(String exception, Call call) {
            answers(exception, call);
            Given asked = and(StableFoundry::answers).and(Boundaries::askRank);
            for (Call part : Portrait.parts()) {
                staysThrough(call, part);
                asked.staysThrough(call, part);
            }
        }

        private void staysThrough(Call refused, Call part) {
            StableFoundry called = made();
            told(called, refused);
            checks.due(test + ", changes nothing", told(called, part), told(made(), part));
        }
    }

    private static void askRank(StableFoundry foundry) {
        told(foundry, f -> f.rank(0));
    }

    /** The answers, as sets, behind one another. */
    static String sets(StableFoundry foundry) {
        StringBuilder sets = new StringBuilder();
        int count = foundry.answers();
        for (int answer = 0; answer < count; answer++) {
            sets.append(answer > 0 ? " " : "").append(foundry.answer(answer));
        }
        return sets.toString();
    }

    static String instances(StableFoundry foundry) {
        StringBuilder instances = new StringBuilder();
        int count = foundry.ground() % 100;
        for (int instance = 0; instance < count; instance++) {
            instances.append(instance > 0 ? " " : "").append(foundry.instance(instance));
        }
        return instances.toString();
    }

    static String ranks(StableFoundry foundry) {
        StringBuilder ranks = new StringBuilder();
        int count = foundry.answers();
        for (int answer = 0; answer < count; answer++) {
            ranks.append(foundry.rank(answer));
        }
        return ranks.toString();
    }

    /** The atom of a predicate without places, if those of others are so. */
    static void rule(StableFoundry foundry, int head, int... needs) {
        foundry.head(head, 0, 0);
        ban(foundry, needs);
    }

    /** No answer in which all of these are so (or what else stands in the draft, if they are). */
    static void ban(StableFoundry foundry, int... needs) {
        for (int need : needs) {
            foundry.body(need, 0, 0, false);
        }
        foundry.enter();
    }

    /** The atoms of predicates without places, each so or not. */
    static void free(StableFoundry foundry, int... predicates) {
        for (int predicate : predicates) {
            choose(foundry, 0, 1, predicate);
        }
    }

    static void choose(StableFoundry foundry, int least, int greatest, int... predicates) {
        for (int predicate : predicates) {
            foundry.head(predicate, 0, 0);
        }
        foundry.choice(least, greatest);
        foundry.enter();
    }

    /** The atoms of a predicate of one place with these constants, each so or not. */
    static void freeRow(StableFoundry foundry, int predicate, int from, int to) {
        foundry.head(predicate, -1, 0);
        foundry.choice(0, 1);
        foundry.interval(0, from, to);
        foundry.enter();
    }

    static void fact(StableFoundry foundry, int predicate, int first, int second) {
        foundry.head(predicate, first, second);
        foundry.enter();
    }

    /** The draft with so many instances for the variable 0 times so many for the variable 1. */
    static void draftTimes(StableFoundry foundry, int firsts, int seconds) {
        foundry.compare(0, -1, -1);
        foundry.compare(0, -2, -2);
        foundry.interval(0, 0, firsts - 1);
        foundry.interval(1, 0, seconds - 1);
    }

    static void weakOf(StableFoundry foundry, int weight, int level, int... needs) {
        foundry.weak(weight, level);
        ban(foundry, needs);
    }

    static void differ(StableFoundry foundry, int x, int y, int c, int... needs) {
        foundry.difference(x, y, c);
        ban(foundry, needs);
    }
}
