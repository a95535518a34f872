/** Each promise of the document, by its number: what is usual, the edges, and what is wrong. */
public final class PromisesTest {
    private static final String INDEX = "IndexOutOfBoundsException";
    private static final String ARGUMENT = "IllegalArgumentException";
    private static final String STATE = "IllegalStateException";
    private static final int LOW = Integer.MIN_VALUE;
    private static final int HIGH = Integer.MAX_VALUE;

    private final Checks checks = new Checks("PromisesTest");
    private StableFoundry x;
    private int promise;

    public static void main(String[] args) {
        PromisesTest test = new PromisesTest();
        test.rules();
        test.atoms();
        test.answers();
        test.reasons();
        test.checks.end();
    }

    private void rules() {
        newObject();
        predicate();
        head();
        choice();
        weak();
        difference();
        body();
        compare();
        interval();
        sum();
        element();
        drop();
        enter();
        enterTooMuch();
        numbering();
    }

    private void atoms() {
        external();
        assign();
        prefer();
        atom();
        ground();
        instance();
    }

    private void answers() {
        answersOfRules();
        answersOfAll();
        answersOfSums();
        answersOfChoices();
        answersOfExternals();
        answer();
        assuming();
        conflict();
        cost();
        rank();
        projected();
        braveAndCautious();
        value();
    }

    private void reasons() {
        support();
        bar();
        loop();
        unfounded();
    }

    /** A new object with predicates of so many places. */
    private void begin(int number, int... places) {
        promise = number;
        x = new StableFoundry();
        for (int count : places) {
            x.predicate(count);
        }
    }

    private void due(String what, Checks.Answering call, Object want) {
        checks.due("promise " + promise + ", " + what, Checks.told(call), want);
    }

    private void throwsDue(String what, Checks.Doing call, String want) {
        checks.due("promise " + promise + ", " + what, Checks.done(call), want);
    }

    private void does(String what, Checks.Doing call) {
        throwsDue(what, call, "done");
    }

    /** The head p (of no places), the needs and the bans; -1 for no head. */
    private int rule(int head, int[] needs, int... bans) {
        if (head >= 0) {
            x.head(head, 0, 0);
        }
        for (int need : needs) {
            x.body(need, 0, 0, false);
        }
        for (int ban : bans) {
            x.body(ban, 0, 0, true);
        }
        return x.enter();
    }

    private static int[] needs(int... needs) {
        return needs;
    }

    private void choose(int least, int greatest, int... heads) {
        for (int head : heads) {
            x.head(head, 0, 0);
        }
        x.choice(least, greatest);
        x.enter();
    }

    /** A choice of an atom each, so that every set of them is an answer. */
    private void free(int... heads) {
        for (int head : heads) {
            choose(0, 1, head);
        }
    }

    private String all() {
        StringBuilder sets = new StringBuilder();
        for (int answer = 0; answer < x.answers(); answer++) {
            sets.append(answer > 0 ? " " : "").append(x.answer(answer));
        }
        return sets.toString();
    }

    private void newObject() {
        begin(1);
        due("NONE", () -> StableFoundry.NONE, -1);
        due("ground", x::ground, 0);
        due("groundAnew", x::groundAnew, 0);
        due("answers", this::all, "0");
        due("answersAnew", x::answersAnew, 1);
        due("no predicate", () -> x.atom(0, 0, 0), INDEX);
        due("no atom", () -> x.loop(0), INDEX);
        due("no instance", () -> x.instance(0), INDEX);
        due("no sum", () -> x.element(1, 0, 0, 0), INDEX);
        due("brave", x::brave, 0);
        due("cautious", x::cautious, 0);
        due("rank", () -> x.rank(0), 2);
        due("value", () -> x.value(0, 3), 0);
        due("cost", () -> x.cost(0, 2), 0);
        due("conflict", () -> x.conflict(0, 0), -1);
        due("assuming", () -> x.assuming(0, 0), 1);
        due("unfounded", () -> x.unfounded(0), 0);
        due("a bit for no atom", () -> x.projected(1), ARGUMENT);
        due("the first rule", x::enter, 0);
        due("an empty rule can't be satisfied", x::answers, 0);
        StableFoundry other = new StableFoundry();
        due("objects apart", other::answers, 1);
    }

    private void predicate() {
        begin(2);
        due("places -1", () -> x.predicate(-1), ARGUMENT);
        due("places 3", () -> x.predicate(3), ARGUMENT);
        due("places least", () -> x.predicate(LOW), ARGUMENT);
        for (int number = 0; number < 6; number++) {
            int places = number % 3;
            int want = number;
            due("number", () -> x.predicate(places), want);
        }
        due("a seventh", () -> x.predicate(0), STATE);
        due("a seventh of 3 places", () -> x.predicate(3), ARGUMENT);
        due("places of 3", () -> x.atom(3, 0, 1), ARGUMENT);
        due("places of 4", () -> x.atom(4, 1, 0), -1);
        due("places of 4, second", () -> x.atom(4, 1, 1), ARGUMENT);
        due("places of 5", () -> x.atom(5, 9, 9), -1);
        due("no 6", () -> x.atom(6, 0, 0), INDEX);
    }

    private interface Adding {
        int add(int predicate, int first, int second);
    }

    /** What head, body and element have in common: predicates of 0, 1 and 2 places, all terms in the places. */
    private void terms(String what, Adding call, boolean isZFine) {
        begin(promise, 0, 1, 2);
        for (int predicate : new int[] {-1, 3, LOW, HIGH}) {
            x.sum(0, 0);
            due(what + " without predicate", () -> call.add(predicate, 99, 99), INDEX);
            x.drop();
        }
        for (int term = -7; term <= 30; term++) {
            int one = term;
            boolean isFine = term >= (isZFine ? -5 : -4) && term <= 9 || term >= 20 && term <= 23;
            Object inPlace = isFine ? 1 : ARGUMENT;
            Object outOfPlace = term == 0 ? 1 : ARGUMENT;
            due(what + " term " + term, withSum(() -> call.add(1, one, 0)), inPlace);
            due(what + " first " + term, withSum(() -> call.add(2, one, 9)), inPlace);
            due(what + " second " + term, withSum(() -> call.add(2, -1, one)), inPlace);
            due(what + " no place " + term, withSum(() -> call.add(0, one, 0)), outOfPlace);
            due(what + " no second place " + term, withSum(() -> call.add(0, 0, one)), outOfPlace);
            due(what + " one place " + term, withSum(() -> call.add(1, 5, one)), outOfPlace);
        }
        due(what + " term least", withSum(() -> call.add(1, LOW, 0)), ARGUMENT);
        due(what + " term greatest", withSum(() -> call.add(1, HIGH, 0)), ARGUMENT);
    }

    private Checks.Answering withSum(Checks.Answering call) {
        return () -> {
            x.drop();
            x.sum(0, 0);
            return call.call();
        };
    }

    private void head() {
        promise = 3;
        terms("head", (p, first, second) -> x.head(p, first, second), false);
        begin(3, 0, 1);
        due("first", () -> x.head(0, 0, 0), 1);
        due("second", () -> x.head(0, 0, 0), 2);
        due("third", () -> x.head(1, 5, 0), 3);
        due("fourth", () -> x.head(1, 5, 0), STATE);
        due("fourth, wrong term", () -> x.head(1, 10, 0), ARGUMENT);
        due("fourth, no predicate", () -> x.head(2, 10, 0), INDEX);
        x.enter();
        due("an atom told twice is one", x::ground, 201);
        due("either", this::all, "1 2");
        x.weak(1, 1);
        due("with a weak cost", () -> x.head(0, 0, 0), STATE);
        due("with a weak cost, wrong term", () -> x.head(0, 1, 0), ARGUMENT);
        x.drop();
        x.difference(0, 1, 1);
        due("with a difference", () -> x.head(0, 0, 0), STATE);
        due("with a difference, no predicate", () -> x.head(9, 0, 0), INDEX);
        x.drop();
        x.choice(0, 0);
        due("with a choice", () -> x.head(0, 0, 0), 1);
    }

    private void choice() {
        begin(4, 0, 0, 0);
        throwsDue("least -1", () -> x.choice(-1, 2), ARGUMENT);
        throwsDue("least 4", () -> x.choice(4, 4), ARGUMENT);
        throwsDue("greatest 4", () -> x.choice(0, 4), ARGUMENT);
        throwsDue("greatest less", () -> x.choice(2, 1), ARGUMENT);
        does("all", () -> x.choice(0, 3));
        throwsDue("again", () -> x.choice(0, 3), STATE);
        throwsDue("again, out of range", () -> x.choice(3, 0), ARGUMENT);
        x.drop();
        x.weak(0, 0);
        throwsDue("a weak cost", () -> x.choice(0, 3), STATE);
        throwsDue("a weak cost, out of range", () -> x.choice(0, 4), ARGUMENT);
        x.drop();
        x.difference(0, 1, 0);
        throwsDue("a difference", () -> x.choice(3, 3), STATE);
        x.drop();
        x.head(0, 0, 0);
        does("with an atom", () -> x.choice(1, 2));
        x.head(1, 0, 0);
        x.head(2, 0, 0);
        x.enter();
        due("one or two, of later atoms too", this::all, "1 2 3 4 5 6");
        begin(4, 0);
        x.head(0, 0, 0);
        x.choice(3, 3);
        x.enter();
        due("more than there are", x::answers, 0);
    }

    private void weak() {
        begin(5, 0);
        throwsDue("level -1", () -> x.weak(1, -1), INDEX);
        throwsDue("level 3", () -> x.weak(1, 3), INDEX);
        x.head(0, 0, 0);
        throwsDue("atoms", () -> x.weak(1, 0), STATE);
        throwsDue("atoms, level 3", () -> x.weak(1, 3), INDEX);
        x.drop();
        x.choice(0, 0);
        throwsDue("a choice", () -> x.weak(1, 0), STATE);
        x.drop();
        does("weak", () -> x.weak(LOW, 2));
        throwsDue("a weak cost", () -> x.weak(1, 0), STATE);
        throwsDue("a weak cost, level 3", () -> x.weak(1, HIGH), INDEX);
        x.enter();
        x.difference(0, 1, 0);
        throwsDue("a difference", () -> x.weak(1, 0), STATE);
        due("the cost", () -> x.cost(0, 2), LOW);
    }

    private void difference() {
        begin(6, 0);
        throwsDue("x -1", () -> x.difference(-1, 0, 0), INDEX);
        throwsDue("x 4", () -> x.difference(4, 0, 999), INDEX);
        throwsDue("y -1", () -> x.difference(0, -1, 0), INDEX);
        throwsDue("y 4", () -> x.difference(0, 4, 0), INDEX);
        throwsDue("both 4", () -> x.difference(4, 4, 0), INDEX);
        throwsDue("the same", () -> x.difference(3, 3, 0), ARGUMENT);
        throwsDue("c 101", () -> x.difference(0, 1, 101), ARGUMENT);
        throwsDue("c -101", () -> x.difference(0, 1, -101), ARGUMENT);
        x.head(0, 0, 0);
        throwsDue("atoms", () -> x.difference(0, 1, 0), STATE);
        throwsDue("atoms, the same", () -> x.difference(0, 0, 0), ARGUMENT);
        x.drop();
        x.choice(0, 1);
        throwsDue("a choice", () -> x.difference(0, 1, 0), STATE);
        x.drop();
        x.weak(0, 0);
        throwsDue("a weak cost", () -> x.difference(0, 1, 0), STATE);
        throwsDue("a weak cost, no number", () -> x.difference(0, 7, 0), INDEX);
        x.drop();
        does("least c", () -> x.difference(0, 3, -100));
        throwsDue("a difference", () -> x.difference(0, 3, 1), STATE);
        x.enter();
        does("greatest c", () -> x.difference(3, 0, 100));
        x.enter();
        due("can hold", x::answers, 1);
        due("number 0", () -> x.value(0, 0), -100);
        due("number 3", () -> x.value(0, 3), 0);
    }

    private void body() {
        promise = 7;
        terms("body", (p, first, second) -> x.body(p, first, second, false), false);
        terms("body not", (p, first, second) -> x.body(p, first, second, true), false);
        begin(7, 0);
        for (int count = 1; count <= 3; count++) {
            int want = count;
            due("so", () -> x.body(0, 0, 0, false), want);
            due("not so", () -> x.body(0, 0, 0, true), want);
        }
        due("fourth", () -> x.body(0, 0, 0, false), STATE);
        due("fourth not", () -> x.body(0, 0, 0, true), STATE);
        due("fourth, wrong term", () -> x.body(0, 1, 0, false), ARGUMENT);
        due("fourth not, no predicate", () -> x.body(1, 1, 0, true), INDEX);
        begin(7, 0, 0, 0);
        free(0, 1);
        rule(2, needs(0), 1);
        due("one so, one not", this::all, "0 2 3 5");
    }

    private void compare() {
        begin(8, 2);
        due("kind -1", () -> x.compare(-1, 0, 0), ARGUMENT);
        due("kind 4", () -> x.compare(4, 0, 0), ARGUMENT);
        for (int term = -7; term <= 30; term++) {
            int one = term;
            Object want = term >= -4 && term <= 9 || term >= 20 && term <= 23 ? 1 : ARGUMENT;
            x.drop();
            due("first " + term, () -> x.compare(0, one, 9), want);
            x.drop();
            due("second " + term, () -> x.compare(3, 9, one), want);
        }
        x.drop();
        for (int count = 1; count <= 3; count++) {
            int want = count;
            due("count", () -> x.compare(0, 1, 1), want);
        }
        due("fourth", () -> x.compare(0, 1, 1), STATE);
        due("fourth, kind 4", () -> x.compare(4, 1, 1), ARGUMENT);
        comparisons(0, "11 22");
        comparisons(1, "12 13 21 23");
        comparisons(2, "12 13 23");
        comparisons(3, "11 12 13 22 23");
        begin(8, 0);
        x.head(0, 0, 0);
        x.compare(2, 3, 3);
        x.enter();
        due("of constants, not so", x::ground, 0);
        x.head(0, 0, 0);
        x.compare(2, 20, 3);
        x.compare(2, 1, 20);
        x.interval(0, 0, 9);
        x.enter();
        due("with 1 added", x::ground, 101);
        due("1 < 1 + 1 < 3", () -> x.instance(0), 11000);
    }

    /** The instances of p(X, Y) with X in 1 to 2, Y in 1 to 3 and the comparison of X to Y. */
    private void comparisons(int kind, String want) {
        begin(8, 2);
        x.head(0, -1, -2);
        x.compare(kind, -1, -2);
        x.interval(0, 1, 2);
        x.interval(1, 1, 3);
        x.enter();
        StringBuilder told = new StringBuilder();
        for (int instance = 0; instance < x.ground() % 100; instance++) {
            told.append(instance > 0 ? " " : "").append(x.instance(instance) / 100);
        }
        due("kind " + kind, () -> told, want);
    }

    private void interval() {
        begin(9, 1);
        throwsDue("variable -1", () -> x.interval(-1, 0, 0), ARGUMENT);
        throwsDue("variable 4", () -> x.interval(4, 0, 0), ARGUMENT);
        throwsDue("from -1", () -> x.interval(0, -1, 0), ARGUMENT);
        throwsDue("to less", () -> x.interval(0, 5, 4), ARGUMENT);
        throwsDue("to 10", () -> x.interval(0, 5, 10), ARGUMENT);
        throwsDue("from 10", () -> x.interval(0, 10, 10), ARGUMENT);
        does("wide", () -> x.interval(0, 0, 9));
        throwsDue("wrong again", () -> x.interval(0, 7, 6), ARGUMENT);
        does("in its place", () -> x.interval(0, 3, 4));
        does("of no variable", () -> x.interval(3, 2, 9));
        x.head(0, -1, 0);
        x.enter();
        due("two", x::ground, 202);
        due("3", () -> x.instance(0), 3000);
        due("4", () -> x.instance(1), 4000);
        x.body(0, -1, 0, false);
        x.interval(0, 4, 9);
        x.enter();
        due("with a body atom", x::ground, 203);
        due("4 alone", () -> x.instance(2), 14000);
        x.interval(2, 9, 9);
        x.head(0, 22, 0);
        x.enter();
        due("9 and 1 is none", x::ground, 203);
    }

    private void sum() {
        begin(10, 0);
        throwsDue("greatest less", () -> x.sum(1, 0), ARGUMENT);
        throwsDue("far less", () -> x.sum(HIGH, LOW), ARGUMENT);
        does("all numbers", () -> x.sum(LOW, HIGH));
        throwsDue("again", () -> x.sum(0, 0), STATE);
        throwsDue("again, less", () -> x.sum(1, 0), ARGUMENT);
        x.drop();
        x.sum(0, 0);
        x.head(0, 0, 0);
        x.enter();
        due("nothing adds up to 0", this::all, "1");
        begin(10, 0);
        x.sum(1, 1);
        x.head(0, 0, 0);
        x.enter();
        due("nothing is not 1", this::all, "0");
        x.sum(-2, -1);
        x.head(0, 0, 0);
        x.enter();
        due("nothing is not -1", this::all, "0");
    }

    private void element() {
        promise = 11;
        terms("element", (p, first, second) -> x.element(1, p, first, second), true);
        begin(11, 0);
        due("no sum", () -> x.element(1, 0, 0, 0), STATE);
        due("no sum, no place", () -> x.element(1, 0, 1, 0), ARGUMENT);
        due("no sum, no predicate", () -> x.element(1, 1, 1, 0), INDEX);
        x.sum(1, 5);
        for (int count = 1; count <= 4; count++) {
            int want = count;
            due("count", () -> x.element(LOW, 0, 0, 0), want);
        }
        due("fifth", () -> x.element(1, 0, 0, 0), STATE);
        due("fifth, no place", () -> x.element(1, 0, 0, 1), ARGUMENT);
        x.drop();
        due("dropped", () -> x.element(1, 0, 0, 0), STATE);
        begin(11, 0);
        x.sum(0, 0);
        x.element(1, 0, 0, 0);
        x.drop();
        x.sum(0, 0);
        due("counted anew", () -> x.element(1, 0, 0, 0), 1);
    }

    private void drop() {
        begin(12, 0, 1);
        x.head(0, 0, 0);
        x.choice(1, 1);
        x.body(0, 0, 0, false);
        x.body(0, 0, 0, true);
        x.compare(0, 0, 1);
        x.interval(0, 1, 1);
        x.sum(3, 3);
        x.element(1, 0, 0, 0);
        does("drop", () -> x.drop());
        does("again", () -> x.drop());
        x.head(1, -1, 0);
        due("no interval", x::enter, ARGUMENT);
        due("none of each", () -> x.head(0, 0, 0), 2);
        x.drop();
        due("no head", () -> x.head(0, 0, 0), 1);
        due("no body", () -> x.body(0, 0, 0, false), 1);
        due("no body not", () -> x.body(0, 0, 0, true), 1);
        due("no comparison", () -> x.compare(0, 0, 0), 1);
        does("no choice", () -> x.choice(0, 3));
        does("no sum", () -> x.sum(0, 0));
        due("no element", () -> x.element(1, 0, 0, 0), 1);
        x.drop();
        x.head(0, 0, 0);
        due("entered", x::enter, 0);
        due("as a plain rule", this::all, "1");
        does("leaves the rules", () -> x.drop());
        due("the atom is left", x::ground, 101);
    }

    private void enter() {
        begin(13, 2, 1);
        unsafe("head", () -> x.head(0, 1, -2));
        unsafe("raised head", () -> x.head(1, 21, 0));
        unsafe("not", () -> x.body(1, -2, 0, true));
        unsafe("raised alone", () -> x.body(1, 21, 0, false));
        unsafe("comparison", () -> x.compare(0, 3, -2));
        unsafe("raised comparison", () -> x.compare(0, 21, 2));
        unsafe("element", () -> {
            x.sum(0, 0);
            x.element(1, 0, -5, -2);
        });
        x.weak(0, 0);
        x.sum(0, 0);
        x.element(1, 0, -5, -5);
        due("Z needs none", x::enter, 7);
        x.choice(0, 0);
        due("a choice without atoms", x::enter, ARGUMENT);
        x.head(1, 0, 0);
        due("the draft is left", x::enter, 8);
        due("it is empty then", () -> x.head(1, 0, 0), 1);
        does("and no choice", () -> x.choice(0, 0));
        x.drop();
        for (int rule = 9; rule < 20; rule++) {
            int want = rule;
            x.weak(0, 0);
            due("rule", x::enter, want);
            x.drop();
        }
        x.weak(1, 0);
        due("a rule more", x::enter, STATE);
        throwsDue("the draft is left", () -> x.weak(1, 0), STATE);
        x.drop();
        x.head(1, -1, 0);
        due("a rule more, unsafe", x::enter, ARGUMENT);
        x.drop();
        x.choice(1, 1);
        due("a rule more, no choice", x::enter, ARGUMENT);
    }

    /** What makes a draft unsafe is made safe by an interval, or by the variable alone in a body atom. */
    private void unsafe(String what, Checks.Doing part) {
        x.drop();
        part.call();
        due(what, x::enter, ARGUMENT);
        due(what + " again", x::enter, ARGUMENT);
        x.body(1, -2, 0, true);
        due(what + " with a not", x::enter, ARGUMENT);
        x.interval(0, 0, 9);
        due(what + " with another's interval", x::enter, ARGUMENT);
        due(what + " bound", () -> x.body(0, 0, -2, false) > 0, true);
        due(what + " entered", () -> x.enter() >= 0, true);
    }

    private void enterTooMuch() {
        begin(13, 2, 1);
        for (int atom = 0; atom < 10; atom++) {
            x.head(1, atom, 0);
            x.enter();
        }
        x.head(0, 1, -1);
        x.interval(0, 0, 2);
        due("13 atoms", x::enter, STATE);
        due("nothing is left of it", x::ground, 1010);
        due("nor possible", () -> x.atom(0, 1, 0), -1);
        due("nor an instance", () -> x.instance(10), INDEX);
        due("nor an answer of it", this::all, "1023");
        x.interval(0, 0, 1);
        due("12 atoms", x::enter, 10);
        due("all of them", x::ground, 1212);
        x.head(0, 0, 0);
        x.head(0, 0, 1);
        due("13 again", x::enter, STATE);
        x.drop();
        x.weak(1, 0);
        x.interval(0, 0, 5);
        x.interval(1, 0, 8);
        x.compare(3, -1, -1);
        x.compare(3, -2, -2);
        due("66 instances", x::enter, STATE);
        due("12 are left", x::ground, 1212);
        due("and no cost", () -> x.cost(0, 0), 0);
        x.interval(1, 0, 7);
        due("60 instances", x::enter, 11);
        due("all of them", x::ground, 1260);
        due("found anew", x::groundAnew, 1260);
        due("the cost", () -> x.cost(0, 0), 48);
        due("the last one", () -> x.instance(59), 115700);
        due("one more", x::enter, STATE);
        due("the number is not given away", () -> x.ground(), 1260);
        x.head(0, 9, 9);
        x.body(0, 9, 8, false);
        due("without an instance", x::enter, 12);
    }

    /** A rule is gone through again and again, all rules by their numbers, the lowest variable counting most. */
    private void numbering() {
        begin(13, 1, 1);
        x.head(0, 20, 0);
        x.body(0, -1, 0, false);
        x.interval(0, 1, 2);
        x.enter();
        x.head(1, -1, 0);
        x.body(0, -1, 0, false);
        x.enter();
        due("nothing yet", x::ground, 0);
        x.head(0, 1, 0);
        x.enter();
        due("the last rule first", () -> x.instance(0), 20000);
        due("all that comes at once of a rule", () -> x.instance(1) + " " + x.instance(2), "1000 2000");
        due("then the next rule", () -> x.instance(3) + " " + x.instance(4) + " " + x.instance(5),
                "11000 12000 13000");
        due("and no more", x::ground, 606);
        due("atoms", () -> "" + x.atom(0, 2, 0) + x.atom(0, 3, 0) + x.atom(1, 1, 0) + x.atom(1, 3, 0), "1235");
        begin(13, 2, 2);
        x.head(0, 0, 1);
        x.head(0, 1, 0);
        x.enter();
        x.head(1, -2, -1);
        x.head(0, 5, -1);
        x.body(0, -1, -2, false);
        x.interval(0, 0, 4);
        x.enter();
        due("a head's atoms in their order", () -> x.atom(1, 1, 0) + " " + x.atom(0, 5, 0), "2 3");
        due("the variable 0 counts most", () -> x.instance(1) + " " + x.instance(2), "10100 11000");
    }

    private void external() {
        begin(14, 0, 1, 2);
        due("no predicate", () -> x.external(3, 99, 99), INDEX);
        due("predicate -1", () -> x.external(-1, 0, 0), INDEX);
        for (int term : new int[] {-5, -1, 10, 20, LOW, HIGH}) {
            due("first " + term, () -> x.external(1, term, 0), ARGUMENT);
            due("second " + term, () -> x.external(2, 0, term), ARGUMENT);
        }
        due("no place", () -> x.external(0, 1, 0), ARGUMENT);
        due("no second place", () -> x.external(1, 0, 1), ARGUMENT);
        due("nothing has come", x::ground, 0);
        x.head(2, 20, 4);
        x.body(1, -1, 0, false);
        x.interval(0, 0, 8);
        x.enter();
        due("new", () -> x.external(1, 3, 0), 0);
        due("with what comes of it", x::ground, 201);
        due("of 3", () -> x.atom(2, 4, 4), 1);
        due("false at first", this::all, "0");
        due("again", () -> x.external(1, 3, 0), 0);
        due("of a head", () -> x.external(2, 4, 4), 1);
        due("nothing new", x::ground, 201);
        x.assign(0, 1);
        x.external(1, 3, 0);
        due("stays as it is", () -> x.assign(0, 1), 1);
        for (int atom = 4; atom < 9; atom++) {
            x.external(1, atom, 0);
        }
        due("full", x::ground, 1206);
        due("the 13th atom", () -> x.external(1, 0, 0), STATE);
        due("a possible one", () -> x.external(2, 9, 4), 11);
        due("out of range", () -> x.external(1, 10, 0), ARGUMENT);
        begin(14, 1, 0);
        x.head(1, 0, 0);
        x.body(0, 1, 0, false);
        x.interval(1, 0, 9);
        x.compare(0, -2, -2);
        x.enter();
        x.weak(1, 1);
        x.compare(0, -1, -1);
        x.compare(0, -2, -2);
        x.interval(0, 0, 8);
        x.interval(1, 0, 5);
        x.enter();
        due("54 instances", x::ground, 54);
        due("64", () -> x.external(0, 1, 0), STATE);
        due("54 still", x::ground, 54);
        due("not possible", () -> x.atom(0, 1, 0), -1);
        due("no external", () -> x.assign(0, 1), INDEX);
        due("another", () -> x.external(0, 0, 0), 0);
    }

    private void assign() {
        begin(15, 0, 0);
        x.external(0, 0, 0);
        x.head(1, 0, 0);
        x.enter();
        due("no atom", () -> x.assign(2, 9), INDEX);
        due("atom -1", () -> x.assign(-1, 0), INDEX);
        due("how 3", () -> x.assign(0, 3), ARGUMENT);
        due("how -1", () -> x.assign(1, -1), ARGUMENT);
        due("no external", () -> x.assign(1, 0), STATE);
        due("was false", () -> x.assign(0, 2), 0);
        due("free", this::all, "2 3");
        due("was free", () -> x.assign(0, 1), 2);
        due("true", this::all, "3");
        due("was true", () -> x.assign(0, 1), 1);
        due("was true still", () -> x.assign(0, 0), 1);
        due("false", this::all, "2");
        due("was false again", () -> x.assign(0, 0), 0);
    }

    private void prefer() {
        begin(16, 0, 0);
        due("no atoms", () -> x.prefer(0, 0), INDEX);
        free(0, 1);
        due("no second", () -> x.prefer(0, 2), INDEX);
        due("no first", () -> x.prefer(2, 2), INDEX);
        due("first -1", () -> x.prefer(-1, 0), INDEX);
        due("second -1", () -> x.prefer(0, -1), INDEX);
        due("the same", () -> x.prefer(1, 1), ARGUMENT);
        for (int count = 1; count <= 6; count++) {
            int want = count;
            due("count", () -> x.prefer(0, 1), want);
        }
        due("a seventh", () -> x.prefer(0, 1), STATE);
        due("a seventh, the same", () -> x.prefer(0, 0), ARGUMENT);
        due("a seventh, no atom", () -> x.prefer(0, 5), INDEX);
    }

    private void atom() {
        begin(17, 2, 1, 0);
        x.head(0, 3, 4);
        x.head(1, 9, 0);
        x.head(2, 0, 0);
        x.enter();
        due("first", () -> x.atom(0, 3, 4), 0);
        due("second", () -> x.atom(1, 9, 0), 1);
        due("third", () -> x.atom(2, 0, 0), 2);
        due("turned round", () -> x.atom(0, 4, 3), -1);
        due("another", () -> x.atom(1, 8, 0), -1);
        due("no predicate", () -> x.atom(3, 77, 0), INDEX);
        due("predicate -1", () -> x.atom(-1, 0, 0), INDEX);
        due("first 10", () -> x.atom(0, 10, 0), ARGUMENT);
        due("second -1", () -> x.atom(0, 0, -1), ARGUMENT);
        due("second 20", () -> x.atom(0, 0, 20), ARGUMENT);
        due("no place", () -> x.atom(2, 1, 0), ARGUMENT);
        due("no second place", () -> x.atom(1, 1, 1), ARGUMENT);
        x.body(0, 5, 5, true);
        x.body(2, 0, 0, false);
        x.enter();
        due("a body makes none possible", () -> x.atom(0, 5, 5), -1);
    }

    private void ground() {
        begin(18, 1);
        x.head(0, -1, 0);
        x.interval(0, 1, 3);
        x.enter();
        due("3 and 3", x::ground, 303);
        x.body(0, -1, 0, false);
        x.body(0, -2, 0, false);
        x.enter();
        due("9 more", x::ground, 312);
        x.head(0, -1, 0);
        x.interval(0, 3, 4);
        x.enter();
        due("of an atom again, and a new one, with 7 pairs", x::ground, 421);
        promise = 19;
        due("anew", x::groundAnew, 421);
        x.external(0, 8, 0);
        due("with an external", () -> x.ground() + " " + x.groundAnew(), "530 530");
        x.weak(0, 0);
        x.body(0, -1, 0, false);
        x.body(0, 20, 0, false);
        x.enter();
        due("with pairs one apart", () -> x.groundAnew() + " " + x.groundAnew(), "533 533");
        due("it leaves the numbers", () -> x.atom(0, 8, 0) + " " + x.instance(0), "4 1000");
        x.head(0, 0, 0);
        x.body(0, 9, 0, false);
        x.enter();
        due("no instance", x::groundAnew, 533);
        begin(19, 1, 0);
        x.external(0, 9, 0);
        x.head(1, 0, 0);
        x.body(0, -1, 0, false);
        x.enter();
        due("by an external alone", x::groundAnew, 201);
        due("of the constant 9", () -> x.instance(0), 9000);
    }

    private void instance() {
        begin(20, 2, 2);
        x.weak(1, 0);
        x.enter();
        x.weak(1, 1);
        x.compare(2, -2, -4);
        x.interval(1, 7, 9);
        x.interval(3, 8, 9);
        x.interval(0, 5, 6);
        x.enter();
        due("without variables", () -> x.instance(0), 0);
        due("7 and 8", () -> x.instance(1), 10708);
        due("7 and 9", () -> x.instance(2), 10709);
        due("8 and 9", () -> x.instance(3), 10809);
        due("no more", () -> x.instance(4), INDEX);
        due("-1", () -> x.instance(-1), INDEX);
        due("least", () -> x.instance(LOW), INDEX);
        due("greatest", () -> x.instance(HIGH), INDEX);
    }

    private void answersOfRules() {
        begin(21, 0, 0, 0, 0);
        rule(0, needs(1));
        rule(1, needs(0));
        due("not possible", x::ground, 0);
        rule(0, needs(), 2);
        due("2 is not possible", this::all, "3");
        choose(0, 1, 2);
        due("nothing by itself", this::all, "3 4");
        begin(21, 0, 0);
        free(0);
        rule(0, needs(0));
        rule(1, needs(), 1);
        due("not by its own not", x::answers, 0);
        promise = 22;
        due("anew", x::answersAnew, 0);
        begin(21, 0, 0, 0);
        x.head(0, 0, 0);
        x.head(1, 0, 0);
        x.head(2, 0, 0);
        x.enter();
        due("least of a head", this::all, "1 2 4");
        rule(0, needs(1));
        due("1 needs 0, so that it is not least", this::all, "1 4");
        rule(1, needs(0));
        due("both by each other", this::all, "3 4");
        rule(-1, needs(2));
        due("without 2", this::all, "3");
        promise = 22;
        due("anew", x::answersAnew, 1);
        promise = 21;
        x.difference(0, 1, -1);
        x.body(0, 0, 0, false);
        x.enter();
        x.difference(1, 0, 0);
        x.enter();
        due("differences that can't hold together", x::answers, 0);
        due("anew", x::answersAnew, 0);
        begin(21, 0, 0);
        free(0, 1);
        x.weak(1, 1);
        x.body(0, 0, 0, false);
        x.enter();
        due("weak costs rule out none", this::all, "0 1 2 3");
        promise = 22;
        due("anew", x::answersAnew, 4);
        x.body(1, 0, 0, false);
        x.enter();
        due("anew, not asked before", x::answersAnew, 2);
        due("and asked behind", this::all, "0 1");
    }

    /** 12 atoms, of which each may be so or not: what is told of the last ones, and of the last sets. */
    private void answersOfAll() {
        begin(21, 2);
        x.head(0, -1, -2);
        x.choice(0, 1);
        x.interval(0, 1, 3);
        x.interval(1, 1, 4);
        x.enter();
        due("all sets", x::answers, 4096);
        due("the last one", () -> x.answer(4095), 4095);
        x.body(0, 2, 4, false);
        x.body(0, 3, 4, true);
        x.enter();
        due("without those with 7, but not 11", x::answers, 3072);
        x.body(0, 1, 1, false);
        x.body(0, 3, 3, false);
        x.enter();
        due("without those with 0 and 10", x::answers, 2304);
        due("the last one, without 0", () -> x.answer(2303), 4094);
        promise = 22;
        due("anew", x::answersAnew, 2304);
        promise = 24;
        due("7", () -> x.assuming(128, 0), 768);
        promise = 28;
        due("seen through all", () -> x.projected(4095), 2304);
        due("seen through the last 4", () -> x.projected(4095 - 255), 16);
    }

    private void answersOfSums() {
        begin(21, 1, 0);
        for (int atom = 1; atom <= 3; atom++) {
            x.head(0, atom, 0);
            x.choice(0, 1);
            x.enter();
        }
        x.sum(2, 3);
        x.element(1, 0, -5, 0);
        x.enter();
        due("none with 2 or 3 of them", this::all, "0 1 2 4");
        x.sum(HIGH, HIGH);
        x.element(HIGH, 0, 1, 0);
        x.element(HIGH, 0, 1, 0);
        x.element(-HIGH, 0, -5, 0);
        x.enter();
        due("each element counts, beyond ints", this::all, "0 2 4");
        x.sum(-2, -2);
        x.element(HIGH, 0, 2, 0);
        x.element(HIGH, 0, -5, 0);
        x.enter();
        due("far above is not below", this::all, "0 2 4");
        x.sum(0, 0);
        x.element(LOW, 0, 3, 0);
        x.element(LOW, 0, 3, 0);
        x.element(1, 0, 1, 0);
        x.element(1, 0, 2, 0);
        x.head(1, 0, 0);
        x.enter();
        due("twice the least is not 0", this::all, "2 4 8");
        rule(-1, needs(1));
        due("and so it is left", this::all, "2 4");
        begin(21, 1, 0);
        for (int atom = 1; atom <= 3; atom++) {
            x.head(0, atom, 0);
            x.choice(0, 1);
            x.enter();
        }
        x.sum(LOW, -2);
        x.element(LOW, 0, 2, 0);
        x.element(LOW, 0, 2, 0);
        x.enter();
        due("beyond the least", this::all, "0 1 2 3 4 5 6 7");
        x.head(0, 4, 0);
        x.enter();
        due("an atom that comes later counts not", x::answers, 8);
        x.sum(-1, 0);
        x.element(-1, 0, -5, 0);
        x.enter();
        due("an atom that comes later counts, too", this::all, "9 10 11 12 13 14 15");
        begin(21, 2, 0);
        x.head(0, 1, 1);
        x.enter();
        x.head(0, 1, 2);
        x.enter();
        x.head(1, 0, 0);
        x.sum(1, 1);
        x.element(1, 0, -5, -5);
        x.enter();
        due("Z is the same in both places", this::all, "7");
        begin(21, 2, 0);
        x.head(0, 9, 0);
        x.head(0, 0, 9);
        x.choice(0, 3);
        x.enter();
        x.head(1, 0, 0);
        x.sum(5, 6);
        x.element(2, 0, -5, 0);
        x.element(3, 0, 0, -5);
        x.enter();
        due("Z is 0 to 9, in either place", this::all, "0 1 2 7");
        begin(21, 0, 0);
        x.head(0, 0, 0);
        x.sum(0, 0);
        x.element(1, 1, 0, 0);
        x.element(-1, 0, 0, 0);
        x.enter();
        x.head(1, 0, 0);
        x.body(0, 0, 0, false);
        x.enter();
        due("a sum is asked in the smaller set", x::answers, 0);
        begin(21, 0, 0);
        x.head(0, 0, 0);
        x.sum(1, 1);
        x.element(1, 0, 0, 0);
        x.enter();
        due("nothing by its own sum", this::all, "0");
        begin(21, 0, 0);
        x.head(0, 0, 0);
        x.sum(-1, 0);
        x.element(1, 1, 0, 0);
        x.element(-1, 0, 0, 0);
        x.enter();
        rule(1, needs(0));
        rule(0, needs(1));
        due("both", this::all, "3");
        due("anew", x::answersAnew, 1);
    }

    private void answersOfChoices() {
        begin(21, 0, 0, 0);
        x.head(0, 0, 0);
        x.head(0, 0, 0);
        x.head(1, 0, 0);
        x.choice(2, 2);
        x.enter();
        due("an atom told twice counts once", this::all, "3");
        begin(21, 0, 0, 0);
        choose(1, 1, 0, 1, 2);
        rule(0, needs(1));
        due("1 would bring 0", this::all, "1 4");
        begin(21, 0, 0);
        x.head(0, 0, 0);
        x.choice(0, 1);
        x.body(1, 0, 0, false);
        x.enter();
        x.head(1, 0, 0);
        x.choice(0, 1);
        x.enter();
        due("of a body that may not hold", this::all, "0 1 3");
        begin(21, 0, 0);
        choose(0, 2, 0, 1);
        x.head(0, 0, 0);
        x.head(1, 0, 0);
        x.enter();
        due("a choice supports more than the least", this::all, "1 2 3");
        due("anew", x::answersAnew, 3);
    }

    private void answersOfExternals() {
        begin(21, 0, 0);
        x.external(0, 0, 0);
        rule(1, needs(0));
        due("false", this::all, "0");
        x.assign(0, 1);
        due("true", this::all, "3");
        x.assign(0, 2);
        due("free", this::all, "0 3");
        rule(-1, needs(1));
        due("free, ruled out", this::all, "0");
        x.assign(0, 1);
        due("true, ruled out", x::answers, 0);
        due("anew", x::answersAnew, 0);
        begin(21, 0);
        rule(0, needs());
        x.external(0, 0, 0);
        due("false, but of a head", this::all, "1");
        begin(21, 1);
        for (int atom = 0; atom < 6; atom++) {
            x.external(0, atom, 0);
            x.assign(atom, 2);
        }
        due("all sets", x::answers, 64);
        due("all anew", x::answersAnew, 64);
        for (int atom = 6; atom < 10; atom++) {
            x.external(0, atom, 0);
            x.assign(atom, 2);
        }
        due("all sets of 10", x::answers, 1024);
        due("the last", () -> x.answer(1023), 1023);
    }

    private void answer() {
        begin(23, 0, 0, 0);
        rule(0, needs());
        free(1, 2);
        due("first", () -> x.answer(0), 1);
        due("second", () -> x.answer(1), 3);
        due("third", () -> x.answer(2), 5);
        due("last", () -> x.answer(3), 7);
        due("no more", () -> x.answer(4), INDEX);
        due("-1", () -> x.answer(-1), INDEX);
        due("least", () -> x.answer(LOW), INDEX);
        rule(-1, needs());
        due("none at all", () -> x.answer(0), INDEX);
    }

    /** The sets 1, 2, 5, 6, 9 and 10 as answers: one of 0 and 1, and one of 2 and 3 at most. */
    private void six(int number) {
        begin(number, 0, 0, 0, 0);
        choose(1, 1, 0, 1);
        choose(0, 1, 2, 3);
    }

    private void assuming() {
        six(24);
        due("all", () -> x.assuming(0, 0), 6);
        due("0", () -> x.assuming(1, 0), 3);
        due("not 0", () -> x.assuming(0, 1), 3);
        due("0 and not 2", () -> x.assuming(1, 4), 2);
        due("0 and 1", () -> x.assuming(3, 0), 0);
        due("neither 2 nor 3", () -> x.assuming(0, 12), 2);
        due("0 and not 0", () -> x.assuming(1, 1), 0);
        due("are: no atom", () -> x.assuming(16, 0), ARGUMENT);
        due("areNot: no atom", () -> x.assuming(0, 16), ARGUMENT);
        due("are -1", () -> x.assuming(-1, 0), ARGUMENT);
        due("areNot least", () -> x.assuming(0, LOW), ARGUMENT);
    }

    private void conflict() {
        six(25);
        due("met", () -> x.conflict(5, 10), -1);
        due("nothing", () -> x.conflict(0, 0), -1);
        due("0 and 1", () -> x.conflict(7, 0), 3);
        due("2 and 3", () -> x.conflict(13, 0), 12);
        due("the least of two", () -> x.conflict(15, 0), 3);
        due("neither 0 nor 1", () -> x.conflict(4, 11), 3 * 4096);
        due("of are and areNot the least", () -> x.conflict(12, 3), 12);
        due("an atom in both", () -> x.conflict(1, 1), 4097);
        due("as few as possible", () -> x.conflict(13, 1), 12);
        due("8", () -> x.conflict(15, 15), 3);
        due("are: no atom", () -> x.conflict(16, 0), ARGUMENT);
        due("areNot: no atom", () -> x.conflict(0, 31), ARGUMENT);
        due("negative", () -> x.conflict(0, -4096), ARGUMENT);
        rule(-1, needs(0));
        due("one alone", () -> x.conflict(3, 0), 1);
        due("not 1", () -> x.conflict(1, 2), 1);
        due("not 1 alone", () -> x.conflict(8, 2), 2 * 4096);
        rule(-1, needs(1));
        due("no answer at all", () -> x.conflict(15, 15), 0);
        due("no answer, nothing assumed", () -> x.conflict(0, 0), 0);
        begin(25, 1);
        x.head(0, -1, 0);
        x.choice(0, 1);
        x.interval(0, 0, 9);
        x.enter();
        due("9 of are", () -> x.conflict(511, 0), ARGUMENT);
        due("8 of are", () -> x.conflict(255, 0), -1);
        due("5 and 4", () -> x.conflict(31, 15 << 5), ARGUMENT);
        due("4 and 4", () -> x.conflict(15, 15 << 4), -1);
        due("8 and 1 of them again", () -> x.conflict(255, 1), ARGUMENT);
        due("no answer meets an atom both ways", () -> x.conflict(15, 15 << 3), 8 + 4096 * 8);
    }

    private void weakOf(int weight, int level, int atom) {
        x.weak(weight, level);
        x.body(atom, 0, 0, false);
        x.enter();
    }

    private void cost() {
        six(26);
        weakOf(3, 0, 0);
        weakOf(HIGH, 1, 0);
        weakOf(HIGH, 1, 2);
        weakOf(-4, 0, 2);
        weakOf(LOW, 2, 3);
        weakOf(LOW, 2, 1);
        due("of 1 at 0", () -> x.cost(0, 0), 3);
        due("of 1 at 1", () -> x.cost(0, 1), HIGH);
        due("of 1 at 2", () -> x.cost(0, 2), 0);
        due("of 5 at 0", () -> x.cost(2, 0), -1);
        due("of 5 at 1, beyond ints", () -> x.cost(2, 1), 2L * HIGH);
        due("of 10 at 2, beyond ints", () -> x.cost(5, 2), 2L * LOW);
        due("no answer", () -> x.cost(6, 0), INDEX);
        due("answer -1", () -> x.cost(-1, 0), INDEX);
        due("level 3", () -> x.cost(0, 3), INDEX);
        due("level -1", () -> x.cost(0, -1), INDEX);
        begin(26, 1);
        x.head(0, -1, 0);
        x.interval(0, 1, 3);
        x.enter();
        x.weak(5, 1);
        x.body(0, -1, 0, false);
        x.body(0, -2, 0, false);
        x.compare(2, -1, -2);
        x.enter();
        due("each instance costs", () -> x.cost(0, 1), 15);
    }

    private String ranks() {
        StringBuilder ranks = new StringBuilder();
        for (int answer = 0; answer < x.answers(); answer++) {
            ranks.append(x.rank(answer));
        }
        return ranks.toString();
    }

    private void rank() {
        six(27);
        due("all alike", this::ranks, "222222");
        due("no answer", () -> x.rank(6), INDEX);
        due("-1", () -> x.rank(-1), INDEX);
        weakOf(1, 0, 1);
        due("level 0", this::ranks, "202020");
        weakOf(-1, 1, 2);
        due("level 1 goes first", this::ranks, "002000");
        weakOf(1, 2, 2);
        weakOf(1, 2, 0);
        due("level 2 goes first", this::ranks, "020002");
        six(27);
        x.prefer(0, 1);
        due("0 to 1", this::ranks, "212121");
        x.prefer(3, 2);
        due("3 to 2; 5 has 0 alone, 10 the rest", this::ranks, "211121");
        x.prefer(1, 0);
        due("1 to 0, too: none of the two", this::ranks, "221122");
        six(27);
        x.prefer(3, 1);
        due("9 to those with 1 but without 3", this::ranks, "212122");
        six(27);
        x.prefer(0, 1);
        weakOf(1, 0, 0);
        due("those that are not best prefer nothing", this::ranks, "020202");
    }

    private void projected() {
        six(28);
        due("all", () -> x.projected(15), 6);
        due("none", () -> x.projected(0), 1);
        due("0", () -> x.projected(1), 2);
        due("0 and 1", () -> x.projected(3), 2);
        due("2 and 3", () -> x.projected(12), 3);
        due("0 and 3", () -> x.projected(9), 4);
        due("no atom", () -> x.projected(16), ARGUMENT);
        due("-1", () -> x.projected(-1), ARGUMENT);
        rule(-1, needs(0));
        due("fewer", () -> x.projected(15), 3);
        rule(-1, needs(1));
        due("no answer", () -> x.projected(15), 0);
    }

    private void braveAndCautious() {
        begin(29, 0, 0, 0);
        choose(1, 1, 0, 1, 2);
        due("of each answer some", x::brave, 7);
        promise = 30;
        due("of all answers none", x::cautious, 0);
        begin(29, 0, 0, 0, 0);
        rule(0, needs());
        free(1, 2);
        rule(-1, needs(2));
        rule(3, needs(1));
        due("brave", x::brave, 11);
        promise = 30;
        due("cautious", x::cautious, 1);
        rule(-1, needs(), 1);
        due("of one", x::cautious, 11);
        rule(-1, needs(1));
        due("of none: all", x::cautious, 15);
        promise = 29;
        due("of none: nothing", x::brave, 0);
    }

    private void differ(int a, int b, int c, int need) {
        x.difference(a, b, c);
        if (need >= 0) {
            x.body(need, 0, 0, false);
        }
        x.enter();
    }

    private void value() {
        begin(31, 0, 0);
        free(0, 1);
        differ(0, 1, -3, 0);
        differ(1, 2, -4, -1);
        differ(3, 0, 5, -1);
        differ(2, 0, 1, 1);
        due("answers", this::all, "0 1 2");
        due("0 of 0", () -> x.value(0, 0), 0);
        due("1 of 0", () -> x.value(0, 1), -4);
        due("2 of 0", () -> x.value(0, 2), 0);
        due("3 of 0", () -> x.value(0, 3), 0);
        due("0 of 1", () -> x.value(1, 0), -7);
        due("3 of 1", () -> x.value(1, 3), -2);
        due("0 of 2", () -> x.value(2, 0), 0);
        due("0 of 0 again", () -> x.value(0, 0), 0);
        due("no number", () -> x.value(0, 4), INDEX);
        due("number -1", () -> x.value(0, -1), INDEX);
        due("no answer", () -> x.value(3, 0), INDEX);
        due("answer -1", () -> x.value(-1, 0), INDEX);
        begin(31);
        differ(0, 1, -100, -1);
        differ(1, 2, -100, -1);
        differ(2, 3, -100, -1);
        differ(3, 0, 100, -1);
        due("round in a ring", x::answers, 0);
        begin(31);
        differ(0, 1, -100, -1);
        differ(1, 2, -100, -1);
        differ(2, 3, -100, -1);
        due("one after the other", () -> x.value(0, 0), -300);
        differ(3, 0, 100, -1);
        due("round in a ring, below 0", x::answers, 0);
        begin(31);
        differ(0, 1, -30, -1);
        differ(1, 2, -30, -1);
        differ(2, 3, -30, -1);
        differ(3, 0, 90, -1);
        due("round in a ring, at 0", () -> x.value(0, 0) + " " + x.value(0, 3), "-90 0");
    }

    private void support() {
        begin(32, 0, 0, 0, 0);
        x.head(0, 0, 0);
        x.head(1, 0, 0);
        x.enter();
        rule(0, needs(2));
        choose(0, 3, 0, 1, 2);
        rule(0, needs());
        due("answers", this::all, "1 3 5 7");
        due("0 alone in its head", () -> x.support(0, 0), 0);
        due("1 is not in it", () -> x.support(0, 1), -1);
        due("0, with 1 in the head: by the choice", () -> x.support(1, 0), 1);
        due("1, by the choice", () -> x.support(1, 1), 1);
        due("2 of 5", () -> x.support(2, 2), 1);
        due("0 of 5", () -> x.support(2, 0), 0);
        due("no answer", () -> x.support(4, 0), INDEX);
        due("answer -1", () -> x.support(-1, 0), INDEX);
        due("no atom", () -> x.support(0, 3), INDEX);
        due("atom -1", () -> x.support(0, -1), INDEX);
        due("the instance came after the choice", () -> x.instance(1) + " " + x.instance(2), "20000 10000");
        begin(32, 0, 0);
        x.external(0, 0, 0);
        x.assign(0, 1);
        rule(1, needs(0));
        due("an external has none", () -> x.support(0, 0), -1);
        due("what hangs on it", () -> x.support(0, 1), 0);
        begin(32, 0, 0);
        x.head(0, 0, 0);
        x.head(0, 0, 0);
        x.enter();
        due("told twice in the head", () -> x.support(0, 0), 0);
    }

    private void bar() {
        begin(33, 0, 0, 0);
        free(0, 1);
        rule(2, needs(0, 1));
        due("in some answer", () -> x.bar(2), -1);
        due("no atom", () -> x.bar(3), INDEX);
        due("atom -1", () -> x.bar(-1), INDEX);
        rule(-1, needs(0));
        due("0 by the constraint", () -> x.bar(0), 3);
        due("2 by it, too", () -> x.bar(2), 3);
        due("1 is in one", () -> x.bar(1), -1);
        rule(-1, needs(1));
        due("0 still", () -> x.bar(0), 3);
        due("1", () -> x.bar(1), 4);
        due("2 by no single one", () -> x.bar(2), -2);
        begin(33, 0, 0);
        free(0);
        differ(0, 1, -1, -1);
        differ(1, 0, 0, 0);
        due("by a difference", () -> x.bar(0), 1);
        rule(1, needs(0), 0);
        due("nothing comes without an instance", () -> x.bar(0), 1);
        begin(33, 0, 0);
        differ(0, 1, -1, 0);
        rule(0, needs(), 1);
        differ(0, 1, -1, 0);
        differ(1, 0, 0, 0);
        due("the one that is in both rings", () -> x.bar(0) + " " + x.answers(), "3 0");
        begin(33, 0, 0);
        x.weak(1, 0);
        x.enter();
        differ(0, 1, -1, -1);
        free(0);
        differ(1, 0, 0, 0);
        due("no weak cost is in the way", () -> x.bar(0), 1);
        rule(-1, needs(0));
        due("a constraint, too: no single one", () -> x.bar(0), -2);
        begin(33, 0, 0);
        differ(0, 1, -1, -1);
        free(0);
        differ(1, 0, 0, 0);
        due("the very first", () -> x.bar(0), 0);
        begin(33, 0, 0);
        free(0);
        differ(0, 1, 0, 0);
        differ(1, 0, -1, 0);
        differ(2, 3, -1, 0);
        differ(3, 2, 0, 0);
        due("two rings: no single one", () -> x.bar(0), -2);
        begin(33, 0, 0);
        x.external(0, 0, 0);
        due("an external that is false", () -> x.bar(0), -2);
        choose(3, 3, 0);
        due("by a choice that can't be so", () -> x.bar(0), -2);
        x.assign(0, 1);
        due("true then", () -> x.bar(0), 0);
        begin(33, 0, 0, 0);
        x.head(0, 0, 0);
        x.head(1, 0, 0);
        x.enter();
        rule(1, needs());
        due("one is so in any case", () -> x.bar(0), 1);
    }

    private void loop() {
        begin(34, 0, 0, 0, 0, 0);
        choose(0, 3, 0, 1, 2);
        rule(1, needs(0));
        due("one way", () -> x.loop(0), 0);
        rule(2, needs(1));
        rule(0, needs(2));
        due("round", () -> x.loop(0) + " " + x.loop(1) + " " + x.loop(2), "7 7 7");
        x.head(3, 0, 0);
        x.head(4, 0, 0);
        x.body(0, 0, 0, false);
        x.enter();
        due("behind it", () -> x.loop(3), 0);
        x.head(4, 0, 0);
        x.choice(0, 1);
        x.body(4, 0, 0, false);
        x.enter();
        due("by itself", () -> x.loop(4), 16);
        due("not with it", () -> x.loop(3), 0);
        rule(3, needs(), 4);
        rule(4, needs(), 3);
        due("not by nots", () -> x.loop(3) + " " + x.loop(4), "0 16");
        due("no atom", () -> x.loop(5), INDEX);
        due("atom -1", () -> x.loop(-1), INDEX);
    }

    private void unfounded() {
        begin(35, 0, 0, 0);
        x.external(0, 0, 0);
        rule(1, needs(0));
        rule(2, needs(1));
        rule(1, needs(2));
        due("all", () -> x.unfounded(7), 7);
        due("nothing", () -> x.unfounded(0), 0);
        due("1 and 2 by each other", () -> x.unfounded(6), 6);
        due("2 alone", () -> x.unfounded(4), 4);
        x.assign(0, 1);
        due("0 is true", () -> x.unfounded(7), 0);
        due("without 0", () -> x.unfounded(6), 6);
        x.assign(0, 2);
        due("0 is free", () -> x.unfounded(7), 0);
        due("0 alone", () -> x.unfounded(1), 0);
        due("no atom", () -> x.unfounded(8), ARGUMENT);
        due("-1", () -> x.unfounded(-1), ARGUMENT);
        begin(35, 0, 0);
        x.head(0, 0, 0);
        x.head(1, 0, 0);
        x.enter();
        due("either, as the other is so: the union", () -> x.unfounded(3), 3);
        due("one", () -> x.unfounded(1), 0);
        begin(35, 0, 0);
        choose(0, 1, 0, 1);
        due("of a choice", () -> x.unfounded(3), 0);
        rule(-1, needs(0), 1);
        due("constraints found nothing", () -> x.unfounded(1), 0);
        begin(35, 0, 0, 0);
        rule(0, needs(), 1);
        rule(1, needs(), 2);
        due("the body does not hold", () -> x.unfounded(3), 1);
        due("it does", () -> x.unfounded(1), 0);
    }
}
