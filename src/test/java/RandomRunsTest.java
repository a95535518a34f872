import java.util.TreeMap;

/** Long runs of calls by chance (of a fixed kind), each call held against the reference. */
public final class RandomRunsTest {
    private static final int[] ODD = {-6, -5, -1, 4, 10, 12, 19, 24, 101, -101, 4096, Integer.MIN_VALUE, Integer.MAX_VALUE};

    private final Checks checks;
    private final int run;
    private long seed;
    private StableFoundry foundry = new StableFoundry();
    private Reference reference = new Reference();
    private final StringBuilder story = new StringBuilder();
    private final TreeMap<String, Integer> seen;
    private int calls;
    private final int[] places = new int[6];
    private int predicates;
    private int width;
    private int oddity;
    private int flavor;
    private boolean isWrong;

    private RandomRunsTest(Checks checks, int run, TreeMap<String, Integer> seen) {
        this.checks = checks;
        this.run = run;
        this.seen = seen;
        seed = run * 7919L + 17;
    }

    public static void main(String[] args) {
        Checks checks = new Checks("RandomRunsTest");
        int runs = args.length > 0 ? Integer.parseInt(args[0]) : 3000;
        TreeMap<String, Integer> seen = new TreeMap<>();
        for (int run = 0; run < runs; run++) {
            new RandomRunsTest(checks, run, seen).go();
        }
        if (args.length > 1) {
            seen.forEach((what, times) -> System.out.println(what + " " + times));
        }
        checks.end();
    }

    private int below(int bound) {
        seed = seed * 6364136223846793005L + 1442695040888963407L;
        return (int) ((seed >>> 33) % bound);
    }

    private boolean oneIn(int many) {
        return below(many) == 0;
    }

    private interface Call {
        Object on(StableFoundry foundry);
    }

    private interface Due {
        Object on(Reference reference);
    }

    private String same(String what, Call call, Due due) {
        calls++;
        story.append(what).append('\n');
        String got = Checks.told(() -> call.on(foundry));
        String want = Checks.told(() -> due.on(reference));
        String name = what.substring(0, what.indexOf('('));
        seen.merge(name + (want.matches("-?\\d+|done") ? "" : " " + want), 1, Integer::sum);
        checks.due("run " + run + ", call " + calls + ", " + what, got, want);
        if (!got.equals(want) && !isWrong) {
            isWrong = true;
            System.out.println(story);
        }
        return want;
    }

    private void go() {
        width = 1 + below(4);
        oddity = oneIn(3) ? 12 : 60;
        flavor = below(8);
        int longest = oneIn(10) ? 512 : 30 + below(330);
        int first = 1 + below(4);
        for (int i = 0; i < first; i++) {
            addPredicate();
        }
        while (calls < longest && !isWrong) {
            if (oneIn(3)) {
                rule();
            } else {
                for (int i = below(4); i >= 0; i--) {
                    ask();
                }
            }
        }
    }

    private int odd(int usual) {
        return oneIn(oddity) ? ODD[below(ODD.length)] : usual;
    }

    private void addPredicate() {
        int count = odd(oneIn(3) ? 2 : below(2));
        String told = same("predicate(" + count + ")", f -> f.predicate(count), r -> r.predicate(count));
        if (told.length() == 1) {
            places[predicates] = count;
            predicates++;
        }
    }

    private int anyPredicate() {
        return odd(oneIn(20) ? below(6) : below(Math.max(1, predicates)));
    }

    /** kind: 0 constants alone, 1 terms, 2 terms and Z. */
    private int term(int predicate, int place, int kind) {
        int count = predicate >= 0 && predicate < predicates ? places[predicate] : 0;
        if (place >= count) {
            return odd(0);
        }
        if (kind == 2 && oneIn(3)) {
            return -5;
        }
        if (kind > 0 && !oneIn(3)) {
            return oneIn(6) ? 20 + below(oneIn(3) ? 4 : 2) : -1 - below(oneIn(3) ? 4 : 2);
        }
        return odd(oneIn(12) ? below(10) : below(width));
    }

    private void rule() {
        switch (flavor < 4 && oneIn(3) ? flavor : below(12)) {
            case 0 -> difference();
            case 1 -> weak();
            case 2 -> sameDone("drop()", StableFoundry::drop, Reference::drop);
            case 3 -> {
                if (oneIn(2)) {
                    body(oneIn(3));
                }
            }
            default -> heads();
        }
        for (int i = below(3); i > 0; i--) {
            body(oneIn(2));
        }
        if (oneIn(flavor == 4 ? 2 : 4)) {
            sum();
        }
        for (int i = oneIn(3) ? 1 + below(3) : 0; i > 0; i--) {
            compare();
        }
        for (int variable = 0; variable < 4; variable++) {
            if (variable < 2 ? !oneIn(3) : oneIn(2)) {
                interval(variable);
            }
        }
        if (oneIn(15)) {
            ask();
        }
        if (!enter() && oneIn(2)) {
            for (int variable = 0; variable < 4; variable++) {
                interval(variable);
            }
            if (!enter()) {
                sameDone("drop()", StableFoundry::drop, Reference::drop);
            }
        }
    }

    private interface Doing<T> {
        void on(T object);
    }

    private void sameDone(String what, Doing<StableFoundry> call, Doing<Reference> due) {
        same(what, f -> {
            call.on(f);
            return "done";
        }, r -> {
            due.on(r);
            return "done";
        });
    }

    private void heads() {
        boolean isChoice = oneIn(2);
        if (isChoice && oneIn(2)) {
            choice();
            isChoice = false;
        }
        for (int i = oneIn(2) ? 1 : 1 + below(4); i > 0; i--) {
            int predicate = anyPredicate();
            int first = term(predicate, 0, 1);
            int second = term(predicate, 1, 1);
            same("head(" + predicate + ", " + first + ", " + second + ")",
                    f -> f.head(predicate, first, second), r -> r.head(predicate, first, second));
        }
        if (isChoice) {
            choice();
        }
        if (oneIn(15)) {
            choice();
        }
        if (oneIn(15)) {
            weak();
        }
        if (oneIn(15)) {
            difference();
        }
    }

    private void choice() {
        int least = odd(oneIn(2) ? 0 : below(4));
        int greatest = odd(oneIn(2) ? 3 : below(4));
        sameDone("choice(" + least + ", " + greatest + ")",
                f -> f.choice(least, greatest), r -> r.choice(least, greatest));
    }

    private void weak() {
        int weight = oneIn(3) ? ODD[below(ODD.length)] : below(7) - 3;
        int level = odd(below(3));
        sameDone("weak(" + weight + ", " + level + ")", f -> f.weak(weight, level), r -> r.weak(weight, level));
        if (oneIn(20)) {
            heads();
        }
    }

    private void difference() {
        int x = odd(below(4));
        int y = odd(oneIn(10) ? x : below(4));
        int c = odd(oneIn(4) ? below(201) - 100 : below(7) - 3);
        sameDone("difference(" + x + ", " + y + ", " + c + ")",
                f -> f.difference(x, y, c), r -> r.difference(x, y, c));
    }

    private void body(boolean isNot) {
        int predicate = anyPredicate();
        int first = term(predicate, 0, 1);
        int second = term(predicate, 1, 1);
        same("body(" + predicate + ", " + first + ", " + second + ", " + isNot + ")",
                f -> f.body(predicate, first, second, isNot), r -> r.body(predicate, first, second, isNot));
        if (oneIn(25)) {
            body(isNot);
            body(isNot);
            body(isNot);
        }
    }

    private void compare() {
        int kind = odd(below(4));
        int first = odd(oneIn(3) ? below(width) : oneIn(4) ? 20 + below(4) : -1 - below(4));
        int second = odd(oneIn(3) ? below(width) : oneIn(4) ? 20 + below(4) : -1 - below(4));
        same("compare(" + kind + ", " + first + ", " + second + ")",
                f -> f.compare(kind, first, second), r -> r.compare(kind, first, second));
    }

    private void interval(int usual) {
        int variable = odd(usual);
        int from = odd(oneIn(10) ? below(10) : below(width));
        int to = odd(oneIn(10) ? below(10) : from + below(Math.max(1, width - 1)));
        sameDone("interval(" + variable + ", " + from + ", " + to + ")",
                f -> f.interval(variable, from, to), r -> r.interval(variable, from, to));
    }

    private void sum() {
        int least = oneIn(6) ? ODD[below(ODD.length)] : below(7) - 3;
        int greatest = oneIn(6) ? ODD[below(ODD.length)] : least + below(5) - (oneIn(8) ? 1 : 0);
        sameDone("sum(" + least + ", " + greatest + ")", f -> f.sum(least, greatest), r -> r.sum(least, greatest));
        for (int i = below(oneIn(4) ? 6 : 4); i > 0; i--) {
            element();
        }
    }

    private void element() {
        int weight = oneIn(4) ? ODD[ODD.length - 1 - below(2)] : below(7) - 3;
        int predicate = anyPredicate();
        int first = term(predicate, 0, 2);
        int second = term(predicate, 1, 2);
        same("element(" + weight + ", " + predicate + ", " + first + ", " + second + ")",
                f -> f.element(weight, predicate, first, second), r -> r.element(weight, predicate, first, second));
    }

    private boolean enter() {
        return same("enter()", StableFoundry::enter, Reference::enter).length() < 3;
    }

    private int anyAtom() {
        return odd(below(Math.max(1, reference.atomCount() + (oneIn(20) ? 1 : 0))));
    }

    private int anySet() {
        int set = below(1 << reference.atomCount());
        return odd(oneIn(2) ? set & below(1 << reference.atomCount()) : oneIn(30) ? set * 2 : set);
    }

    private int anyAnswer() {
        return odd(below(Math.max(1, reference.answers() + (oneIn(10) ? 1 : 0))));
    }

    private void ask() {
        switch (below(28)) {
            case 0 -> external();
            case 1, 2, 3 -> assign();
            case 4 -> prefer();
            case 5 -> groundAtom();
            case 6 -> {
                same("ground()", StableFoundry::ground, Reference::ground);
                same("groundAnew()", StableFoundry::groundAnew, Reference::groundAnew);
            }
            case 7, 8 -> {
                int number = odd(below(reference.instanceCount() + 1));
                same("instance(" + number + ")", f -> f.instance(number), r -> r.instance(number));
            }
            case 9 -> same("answers()", StableFoundry::answers, Reference::answers);
            case 10 -> same("answersAnew()", StableFoundry::answersAnew, Reference::answersAnew);
            case 11, 12 -> askAnswer();
            case 13, 14 -> askSets();
            case 15, 16 -> askCosts();
            case 17 -> same("brave()", StableFoundry::brave, Reference::brave);
            case 18 -> same("cautious()", StableFoundry::cautious, Reference::cautious);
            case 19, 20 -> support();
            case 21, 22 -> bar();
            case 23, 24 -> {
                int atom = anyAtom();
                same("loop(" + atom + ")", f -> f.loop(atom), r -> r.loop(atom));
            }
            case 25, 26 -> {
                int within = anySet();
                same("unfounded(" + within + ")", f -> f.unfounded(within), r -> r.unfounded(within));
            }
            default -> {
                if (oneIn(4)) {
                    addPredicate();
                }
            }
        }
    }

    private void external() {
        int predicate = anyPredicate();
        int first = term(predicate, 0, oneIn(20) ? 1 : 0);
        int second = term(predicate, 1, oneIn(20) ? 1 : 0);
        same("external(" + predicate + ", " + first + ", " + second + ")",
                f -> f.external(predicate, first, second), r -> r.external(predicate, first, second));
    }

    private void assign() {
        int atom = anyAtom();
        int how = odd(below(3));
        same("assign(" + atom + ", " + how + ")", f -> f.assign(atom, how), r -> r.assign(atom, how));
    }

    private void prefer() {
        int atom = anyAtom();
        int other = anyAtom();
        same("prefer(" + atom + ", " + other + ")", f -> f.prefer(atom, other), r -> r.prefer(atom, other));
    }

    private void groundAtom() {
        int predicate = anyPredicate();
        int first = term(predicate, 0, oneIn(20) ? 1 : 0);
        int second = term(predicate, 1, oneIn(20) ? 1 : 0);
        same("atom(" + predicate + ", " + first + ", " + second + ")",
                f -> f.atom(predicate, first, second), r -> r.atom(predicate, first, second));
    }

    private void askAnswer() {
        int answer = anyAnswer();
        same("answer(" + answer + ")", f -> f.answer(answer), r -> r.answer(answer));
        int number = odd(below(4));
        same("value(" + answer + ", " + number + ")", f -> f.value(answer, number), r -> r.value(answer, number));
    }

    private void askSets() {
        int set = anySet();
        int other = anySet();
        same("projected(" + set + ")", f -> f.projected(set), r -> r.projected(set));
        same("assuming(" + set + ", " + other + ")", f -> f.assuming(set, other), r -> r.assuming(set, other));
        same("conflict(" + set + ", " + other + ")", f -> f.conflict(set, other), r -> r.conflict(set, other));
    }

    private void askCosts() {
        int answer = anyAnswer();
        int level = odd(below(3));
        same("cost(" + answer + ", " + level + ")", f -> f.cost(answer, level), r -> r.cost(answer, level));
        same("rank(" + answer + ")", f -> f.rank(answer), r -> r.rank(answer));
    }

    private void support() {
        int answer = anyAnswer();
        int atom = anyAtom();
        same("support(" + answer + ", " + atom + ")", f -> f.support(answer, atom), r -> r.support(answer, atom));
    }

    /** The reference goes through all sets for each instance: asked where that is not for ever. */
    private void bar() {
        if (reference.atomCount() <= 7 || reference.atomCount() <= 9 && oneIn(8)) {
            int atom = anyAtom();
            same("bar(" + atom + ")", f -> f.bar(atom), r -> r.bar(atom));
        }
    }
}
