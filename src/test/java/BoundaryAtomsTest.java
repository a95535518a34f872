/** The boundary sentences of "Atoms and rules", and of the promises 14 to 20. */
public final class BoundaryAtomsTest extends Boundaries {
    private static final int[] NO_CONSTANTS = {-1, -4, Z, -6, 10, 20, 23, LOW, HIGH};
    private static final AtomCall EXTERNAL = (f, predicate, first, second) -> f.external(predicate, first, second);
    private static final AtomCall ATOM = (f, predicate, first, second) -> f.atom(predicate, first, second);

    public static void main(String[] args) {
        new BoundaryAtomsTest().run();
    }

    // ---- what is told

    /** A rule of each kind, by its number: what the sentence names, in its order. */
    private static void draftOfKind(StableFoundry f, int kind) {
        switch (kind) {
            case 0 -> f.head(0, -1, 0);
            case 1 -> f.compare(2, -1, 1);
            case 2 -> {
                f.sum(0, 0);
                f.element(1, 2, -1, Z);
            }
            case 3 -> {
                f.head(1, -1, 0);
                f.choice(0, 1);
            }
            case 4 -> {
                f.head(1, -1, 0);
                f.head(1, 20, 0);
            }
            case 5 -> f.weak(3, 1);
            default -> f.difference(0, 1, -2);
        }
        f.interval(0, 0, 1);
        f.body(1, 20, 0, true);
    }

    @Sentence("Rules with variables, intervals, comparisons, sums, choices, disjunctions, weak costs and differences are grounded as they are entered, nothing twice;")
    void text_rulesOfAllKinds_areGroundedAsTheyAreEntered() {
        int[] due = {202, 1, 2, 202, 302, 2, 2};
        for (int number = 0; number < due.length; number++) {
            int kind = number;
            Given draft = given(1, 1, 2).and(f -> draftOfKind(f, kind));
            draft.answers(0, StableFoundry::ground);
            Given entered = draft.and(StableFoundry::enter);
            entered.answers(due[kind], StableFoundry::ground);
            entered.answers(kind == 1 ? "0" : "0 1000", Boundaries::instances);
            entered.and(f -> draftOfKind(f, kind)).and(StableFoundry::enter)
                    .answers(due[kind] + due[kind] % 100, StableFoundry::ground);
        }
    }

    @Sentence("Rules with variables, intervals, comparisons, sums, choices, disjunctions, weak costs and differences are grounded as they are entered, nothing twice;")
    void text_rulesOfAllKinds_together_nothingTwice() {
        Given all = given(1, 1, 2).and(f -> {
            for (int kind = 0; kind < 7; kind++) {
                draftOfKind(f, kind);
                f.enter();
            }
        });
        all.answers("0 1000 10000 20000 21000 30000 31000 40000 41000 50000 51000 60000 61000",
                Boundaries::instances);
        all.answers("513 513", f -> f.ground() + " " + f.groundAnew());
        all.and(f -> f.external(1, 9, 0)).answers("613 613", f -> f.ground() + " " + f.groundAnew());
    }

    // ---- atoms and rules

    @Sentence("Predicates are numbered from 0, at most 6; a predicate has 0 to 2 places.")
    void text_predicates_fromNumber0_to5() {
        given().answers(0, f -> f.predicate(2));
        given(0, 0, 0, 0, 0).answers(5, f -> f.predicate(2));
        given(0, 0, 0, 0, 0, 2).answers(-1, f -> f.atom(5, 9, 9));
        given(0, 0, 0, 0, 0, 2).refuses(INDEX, f -> f.atom(6, 0, 0));
    }

    @Sentence("The constants are 0 to 9.")
    void text_constants_0_and9_areLetIn_10_isNone() {
        Given row = given(2);
        row.answers("0 1", f -> f.external(0, 0, 9) + " " + f.external(0, 9, 0));
        row.and(f -> f.head(0, 0, 9)).answers("0 0", f -> f.enter() + " " + f.atom(0, 0, 9));
        row.refuses(ARGUMENT, f -> f.head(0, 10, 0));
        row.refuses(ARGUMENT, f -> f.head(0, 0, 10));
    }

    @Sentence("An atom is a predicate with a constant for each of its places.")
    void text_atoms_differByPredicateAndByEachConstant() {
        Given four = given(2, 2, 1, 0).and(f -> fact(f, 0, 0, 9)).and(f -> fact(f, 0, 9, 0)).and(f -> fact(f, 1, 0, 9))
                .and(f -> fact(f, 2, 9, 0)).and(f -> fact(f, 3, 0, 0)).and(f -> fact(f, 0, 0, 9));
        four.answers(506, StableFoundry::ground);
        four.answers("0 1 2 3 4", f -> f.atom(0, 0, 9) + " " + f.atom(0, 9, 0) + " " + f.atom(1, 0, 9) + " "
                + f.atom(2, 9, 0) + " " + f.atom(3, 0, 0));
        four.answers("-1 -1 -1", f -> f.atom(0, 9, 9) + " " + f.atom(1, 9, 0) + " " + f.atom(2, 0, 0));
    }

    /** How many of all atoms of three predicates of two places, and of one of one place, are possible. */
    private static int possible(StableFoundry f) {
        int possible = 0;
        for (int first = 0; first < 10; first++) {
            for (int second = 0; second < 10; second++) {
                for (int predicate = 0; predicate < 3; predicate++) {
                    possible += f.atom(predicate, first, second) >= 0 ? 1 : 0;
                }
            }
            possible += f.atom(3, first, 0) >= 0 ? 1 : 0;
        }
        return possible;
    }

    @Sentence("An atom is a predicate with a constant for each of its places.")
    void text_atoms_oneThatIsPossible_makesNoOtherPossible() {
        Given four = given(2, 2, 2, 1);
        for (int constant = 0; constant < 10; constant++) {
            int one = constant;
            four.and(f -> fact(f, 0, 9, one)).answers(1, BoundaryAtomsTest::possible);
            four.and(f -> fact(f, 1, one, 9)).answers(1, BoundaryAtomsTest::possible);
            four.and(f -> fact(f, 2, 0, one)).answers(1, BoundaryAtomsTest::possible);
            four.and(f -> fact(f, 3, one, 0)).answers(1, BoundaryAtomsTest::possible);
        }
    }

    @Sentence("The variables are 0 to 3, told as -1 to -4, and Z, told as -5.")
    void text_variables_theTermsMinus1_toMinus4_areTheVariables0_to3() {
        String[] due = {"4000", "400", "40", "4"};
        for (int number = 0; number < 4; number++) {
            int variable = number;
            given().and(f -> pinned(f, variable, 4)).and(StableFoundry::enter)
                    .answers(due[variable], Boundaries::instances);
        }
    }

    private static void pinned(StableFoundry f, int variable, int constant) {
        f.compare(0, -1 - variable, constant);
        f.interval(variable, 0, 9);
    }

    /** The one atom of a head with this term, the variable 0 being 3. */
    private void headAtom(int term, int constant) {
        given(1).and(f -> f.head(0, term, 0)).and(f -> f.interval(0, 3, 3)).and(StableFoundry::enter)
                .answers("101 0", f -> f.ground() + " " + f.atom(0, constant, 0));
    }

    @Sentence("A term is a constant, 0 to 9; a variable; or a variable and 1,")
    void text_terms_aConstantIsItself_aVariableItsConstant_aRaisedOneTheNext() {
        for (int constant = 0; constant < 10; constant++) {
            headAtom(constant, constant);
        }
        headAtom(-1, 3);
        headAtom(20, 4);
    }

    @Sentence("or a variable and 1, told as 20 for the variable 0 and 1, added, up to 23 for the variable 3")
    void text_raisedTerms_20_to23_areTheVariables0_to3_and1() {
        for (int number = 0; number < 4; number++) {
            int variable = number;
            given(1).and(f -> f.head(0, 20 + variable, 0)).and(f -> pinned(f, variable, 4)).and(StableFoundry::enter)
                    .answers(0, f -> f.atom(0, 5, 0));
        }
    }

    @Sentence("(where that would be 10, in whatever part of the rule, there is no instance)")
    void text_9and1_inTheHead_isNoInstance_8and1_is() {
        for (int term = 20; term <= 23; term++) {
            int raised = term;
            noInstance(given(1).and(f -> f.head(0, raised, 0)), raised);
            noInstance(given(2).and(f -> f.head(0, 0, raised)), raised);
            noInstance(given(1).and(f -> f.head(0, 0, 0)).and(f -> f.head(0, raised, 0)), raised);
            noInstance(given(2).and(f -> f.choice(0, 1)).and(f -> f.head(0, raised, 0)), raised);
        }
    }

    /** With the variable as 9 the rule has no instance; as 8 it has one, and as 8 or 9, one, too. */
    private void noInstance(Given draft, int raised) {
        int variable = raised - 20;
        int before = -1 - variable;
        draft.and(f -> f.interval(variable, 9, 9)).answers("0", f -> f.enter() + instances(f));
        draft.and(f -> f.interval(variable, 8, 9)).and(f -> f.compare(2, 7, before))
                .answers(1, f -> f.enter() + f.ground() % 100);
        draft.and(f -> f.interval(variable, 8, 8)).answers(1, f -> f.enter() + f.ground() % 100);
    }

    @Sentence("(where that would be 10, in whatever part of the rule, there is no instance)")
    void text_9and1_inABodyAtomThatHasToBeSo_isNoInstance() {
        Given atoms = given(1).and(f -> f.external(0, 9, 0)).and(f -> f.body(0, 20, 0, false));
        atoms.and(f -> f.interval(0, 9, 9)).answers("0 100", f -> f.enter() + " " + f.ground());
        atoms.and(f -> f.interval(0, 8, 9)).answers("0 101 8000",
                f -> f.enter() + " " + f.ground() + " " + f.instance(0));
        Given alone = given(2).and(f -> f.external(0, 9, 9)).and(f -> f.external(0, 8, 9));
        alone.and(f -> f.body(0, -1, 20, false)).answers("0 201 8000",
                f -> f.enter() + " " + f.ground() + " " + f.instance(0));
    }

    @Sentence("(where that would be 10, in whatever part of the rule, there is no instance)")
    void text_9and1_inABodyAtomThatMayNotBeSo_isNoInstance() {
        for (int term = 20; term <= 23; term++) {
            int raised = term;
            noInstance(given(1).and(f -> f.body(0, raised, 0, true)), raised);
            noInstance(given(2).and(f -> f.body(0, 3, raised, true)), raised);
        }
    }

    @Sentence("(where that would be 10, in whatever part of the rule, there is no instance)")
    void text_9and1_inAComparison_isNoInstance() {
        for (int term = 20; term <= 23; term++) {
            int raised = term;
            noInstance(given().and(f -> f.compare(2, 0, raised)), raised);
            noInstance(given().and(f -> f.compare(1, raised, 0)), raised);
            noInstance(given().and(f -> f.compare(0, raised, raised)), raised);
        }
    }

    @Sentence("(where that would be 10, in whatever part of the rule, there is no instance)")
    void text_9and1_inAnElement_isNoInstance() {
        for (int term = 20; term <= 23; term++) {
            int raised = term;
            noInstance(given(2).and(f -> element(f, raised, 0)), raised);
            noInstance(given(2).and(f -> element(f, Z, raised)), raised);
        }
    }

    private static void element(StableFoundry f, int first, int second) {
        f.sum(0, 0);
        f.element(1, 0, first, second);
    }

    @Sentence("A rule has a head: nothing, or one to three atoms, or a choice of one to three atoms,")
    void text_heads_ofNothing_oneAtom_andThreeAtoms() {
        given(0, 0, 0).and(StableFoundry::enter).answers("", Boundaries::sets);
        given(0, 0, 0).and(f -> rule(f, 0)).answers("1", Boundaries::sets);
        Given three = given(0, 0, 0).and(f -> f.head(0, 0, 0)).and(f -> f.head(1, 0, 0));
        three.and(f -> rule(f, 2)).answers("1 2 4", Boundaries::sets);
        given(0, 0, 0).and(f -> choose(f, 1, 1, 0)).answers("1", Boundaries::sets);
        given(0, 0, 0).and(f -> choose(f, 2, 3, 0, 1, 2)).answers("3 5 6 7", Boundaries::sets);
    }

    @Sentence("of which at least and at most so many have to be so; or a weak cost: a weight at a level, 0 to 2; or a difference.")
    void text_heads_ofOneKindAlone() {
        Given choice = given(0).and(f -> f.choice(0, 1));
        choice.refusesToDo(STATE, f -> f.weak(0, 0));
        choice.refusesToDo(STATE, f -> f.difference(0, 1, 0));
        Given weak = given(0).and(f -> f.weak(0, 2));
        weak.refusesToDo(STATE, f -> f.choice(0, 1));
        weak.refusesToDo(STATE, f -> f.difference(0, 1, 0));
        weak.refuses(STATE, f -> f.head(0, 0, 0));
    }

    @Sentence("It has a body: atoms that have to be so (at most 3), atoms that may not be so (at most 3), comparisons (at most 3), at most one sum, and intervals of variables.")
    void text_body_full_isLetIn_andAsked() {
        Given atoms = given(0, 0, 0, 0, 0, 0).and(f -> free(f, 0, 1, 2, 3, 4));
        Given full = atoms.and(f -> fillBody(f)).and(f -> rule(f, 5));
        full.answers("39", f -> f.answer(f.answers() - 1));
        full.answers(-1, f -> f.conflict(39, 24));
        full.answers(1, f -> f.assuming(32, 0));
    }

    /** 0, 1 and 2 are so, neither 3 nor 4, and two of 0 to 3. */
    private static void fillBody(StableFoundry f) {
        for (int predicate = 0; predicate < 3; predicate++) {
            f.body(predicate, 0, 0, false);
            f.body(Math.min(4, predicate + 3), 0, 0, true);
            f.compare(2, predicate, -1);
        }
        f.interval(0, 3, 3);
        f.sum(3, 3);
        for (int predicate = 0; predicate < 4; predicate++) {
            f.element(1, predicate, 0, 0);
        }
    }

    private static String pairs(StableFoundry f, int kind) {
        f.compare(kind, -1, -2);
        f.interval(0, 1, 2);
        f.interval(1, 1, 3);
        f.enter();
        return instances(f);
    }

    @Sentence("A comparison is of two terms: 0 equal, 1 other, 2 less, 3 at most.")
    void text_comparisons_belowAtAndAboveEquality() {
        given().answers("1100 2200", f -> pairs(f, 0));
        given().answers("1200 1300 2100 2300", f -> pairs(f, 1));
        given().answers("1200 1300 2300", f -> pairs(f, 2));
        given().answers("1100 1200 1300 2200 2300", f -> pairs(f, 3));
    }

    /** Of the kinds 0 to 3 those of which the comparison of two constants holds. */
    private void holding(String due, int first, int second) {
        given().and(f -> {
            for (int kind = 0; kind < 4; kind++) {
                f.compare(kind, first, second);
                f.enter();
            }
        }).answers(due, Boundaries::instances);
    }

    @Sentence("A comparison is of two terms: 0 equal, 1 other, 2 less, 3 at most.")
    void text_comparisons_ofConstantsAlone() {
        holding("0 30000", 0, 0);
        holding("0 30000", 9, 9);
        holding("10000 20000 30000", 0, 9);
        holding("10000 20000 30000", 4, 5);
        holding("10000", 5, 4);
        holding("10000", 9, 0);
    }

    @Sentence("in which Z may stand (for all constants, each giving an element)")
    void text_z_standsFor_0_and9_andEachInItsPlace() {
        Given ends = given(1, 0).and(f -> fact(f, 0, 0, 0)).and(f -> fact(f, 0, 9, 0)).and(f -> f.sum(2, 2));
        ends.and(f -> f.element(1, 0, Z, 0)).and(f -> rule(f, 1)).answers("7", Boundaries::sets);
        Given row = given(1, 0).and(f -> ten(f)).and(f -> f.sum(10, 10)).and(f -> f.element(1, 0, Z, 0));
        row.and(f -> rule(f, 1)).answers("2047", Boundaries::sets);
        Given places = given(2, 0).and(f -> fact(f, 0, 9, 0)).and(f -> fact(f, 0, 0, 9)).and(f -> f.sum(3, 3));
        places.and(f -> f.element(1, 0, Z, 0)).and(f -> f.element(2, 0, 0, Z)).and(f -> rule(f, 1))
                .answers("7", Boundaries::sets);
        Given both = given(2, 0).and(f -> fact(f, 0, 9, 0)).and(f -> fact(f, 0, 9, 9)).and(f -> f.sum(0, 0));
        both.and(f -> f.element(1, 0, Z, Z)).and(f -> rule(f, 1)).answers("3", Boundaries::sets);
    }

    private static void ten(StableFoundry f) {
        f.head(0, -1, 0);
        f.interval(0, 0, 9);
        f.enter();
    }

    @Sentence("A sum has elements, at most 4, each a weight and an atom, in which Z may stand (for all constants, each giving an element), and a least and a greatest value: it holds")
    void text_sum_ofNoElement_andOf4_eachWithItsWeight() {
        Given free = given(0, 0, 0, 0).and(f -> free(f, 0, 1, 2, 3));
        free.and(f -> f.sum(0, 0)).and(StableFoundry::enter).answers("", Boundaries::sets);
        free.and(f -> f.sum(1, HIGH)).and(StableFoundry::enter).answers(16, StableFoundry::answers);
        Given four = free.and(f -> f.sum(5, 9)).and(f -> {
            for (int predicate = 0; predicate < 4; predicate++) {
                f.element(1 << predicate, predicate, 0, 0);
            }
        });
        four.and(StableFoundry::enter).answers("0 1 2 3 4 10 11 12 13 14 15", Boundaries::sets);
        four.refuses(STATE, f -> f.element(1, 0, 0, 0));
    }

    /** Whether a sum of 5 from an atom that is so holds within such bounds. */
    private void five(String due, int least, int greatest) {
        given(0, 0).and(f -> rule(f, 0)).and(f -> f.sum(least, greatest)).and(f -> f.element(5, 0, 0, 0))
                .and(f -> rule(f, 1)).answers(due, Boundaries::sets);
    }

    @Sentence("it holds if the weights of the elements whose atoms are so add up (as whole numbers, beyond ints as well) to that or something between.")
    void text_sum_atItsLeastAndGreatest_holds_besidesItNot() {
        five("3", 5, 5);
        five("3", 4, 5);
        five("3", 5, 6);
        five("3", LOW, HIGH);
        five("1", 6, 6);
        five("1", 4, 4);
        five("1", 6, HIGH);
        five("1", LOW, 4);
    }

    /** Whether a sum of all of a row of so many atoms, each of such a weight so often, holds within such bounds. */
    private void row(String due, int weight, int elements, int atoms, int least, int greatest) {
        given(1, 0).and(f -> f.head(0, -1, 0)).and(f -> f.interval(0, 0, atoms - 1)).and(StableFoundry::enter)
                .and(f -> f.sum(least, greatest)).and(f -> {
                    for (int i = 0; i < elements; i++) {
                        f.element(weight, 0, Z, 0);
                    }
                }).and(f -> rule(f, 1)).answers(due, f -> f.answer(0) >> atoms);
    }

    @Sentence("it holds if the weights of the elements whose atoms are so add up (as whole numbers, beyond ints as well) to that or something between.")
    void text_sum_beyondInts_doesNotWrapAround() {
        row("0", LOW, 2, 1, 0, 0);
        row("0", LOW, 1, 2, 0, 0);
        row("0", LOW, 4, 10, 0, 0);
        row("0", LOW, 2, 1, LOW, HIGH);
        row("0", HIGH, 2, 1, -2, -2);
        row("0", HIGH, 4, 10, LOW, HIGH);
        row("0", 1 << 30, 4, 1, 0, 0);
        row("0", 1 << 30, 2, 1, LOW, LOW);
        row("1", LOW, 1, 1, LOW, LOW);
        row("1", HIGH, 1, 1, HIGH, HIGH);
    }

    @Sentence("it holds if the weights of the elements whose atoms are so add up (as whole numbers, beyond ints as well) to that or something between.")
    void text_sum_farBeyondInts_andBackAgain_holds() {
        Given back = given(0, 0, 0).and(f -> rule(f, 0)).and(f -> rule(f, 1)).and(f -> f.sum(-2, -2));
        back.and(f -> f.element(HIGH, 0, 0, 0)).and(f -> f.element(HIGH, 1, 0, 0)).and(f -> f.element(LOW, 0, 0, 0))
                .and(f -> f.element(LOW, 1, 0, 0)).and(f -> rule(f, 2)).answers("7", Boundaries::sets);
    }

    @Sentence("The variables of a rule are those that stand in its atoms and comparisons, alone or with 1 added (Z is none; an interval alone makes none).")
    void text_variables_anIntervalAlone_makesNone_noMoreDoesZ() {
        given().and(f -> f.interval(0, 5, 9)).and(f -> f.interval(3, 9, 9)).and(StableFoundry::enter)
                .answers("0", Boundaries::instances);
        given(2).and(f -> element(f, Z, Z)).and(StableFoundry::enter).answers("0", Boundaries::instances);
        given(1).and(f -> f.head(0, 23, 0)).and(f -> f.interval(3, 2, 2)).and(f -> f.interval(0, 7, 9))
                .and(StableFoundry::enter).answers("2", Boundaries::instances);
    }

    @Sentence("The variables of a rule are those that stand in its atoms and comparisons, alone or with 1 added (Z is none; an interval alone makes none).")
    void text_variables_standInEachPartOfARule() {
        Given six = given(2, 2).and(f -> f.external(1, 6, 6));
        six.and(f -> f.head(0, -2, 0)).and(f -> f.interval(1, 6, 6)).and(StableFoundry::enter)
                .answers("600", Boundaries::instances);
        six.and(f -> f.body(1, 6, -3, false)).and(StableFoundry::enter).answers("60", Boundaries::instances);
        six.and(f -> f.body(0, 0, -3, true)).and(f -> f.interval(2, 6, 6)).and(StableFoundry::enter)
                .answers("60", Boundaries::instances);
        six.and(f -> f.compare(0, 1, 23)).and(f -> f.interval(3, 0, 6)).and(StableFoundry::enter)
                .answers("0", Boundaries::instances);
        six.and(f -> element(f, 9, -1)).and(f -> f.interval(0, 6, 7)).and(StableFoundry::enter)
                .answers("6000 7000", Boundaries::instances);
    }

    @Sentence("It is safe if each of them has an interval, or stands alone in a body atom that has to be so.")
    void text_safe_byAnInterval_orAloneInABodyAtom_forEachVariable() {
        Given two = given(2).and(f -> f.head(0, -1, -2));
        two.refuses(ARGUMENT, StableFoundry::enter);
        two.and(f -> f.interval(0, 0, 0)).refuses(ARGUMENT, StableFoundry::enter);
        two.and(f -> f.body(0, -1, 21, false)).refuses(ARGUMENT, StableFoundry::enter);
        two.and(f -> f.body(0, -1, -1, true)).and(f -> f.interval(1, 0, 0)).refuses(ARGUMENT, StableFoundry::enter);
        two.and(f -> f.body(0, -1, 21, false)).and(f -> f.interval(1, 0, 0)).answers(0, StableFoundry::enter);
        two.and(f -> f.interval(0, 0, 0)).and(f -> f.interval(1, 9, 9)).answers(0, StableFoundry::enter);
        two.and(f -> f.body(0, -2, -1, false)).answers(0, StableFoundry::enter);
    }

    @Sentence("Rules are numbered from 0, at most 20.")
    void text_rules_fromNumber0_to19() {
        Given nineteen = given(0).and(f -> enterBans(f, 19));
        given(0).and(f -> f.body(0, 0, 0, false)).answers(0, StableFoundry::enter);
        nineteen.and(f -> f.body(0, 0, 0, false)).answers(19, StableFoundry::enter);
        nineteen.and(f -> f.weak(1, 0)).and(StableFoundry::enter).answers("190000", Boundaries::instances);
        given(0).and(f -> enterBans(f, 20)).and(f -> f.body(0, 0, 0, false)).refuses(STATE, StableFoundry::enter);
    }

    /** Rules that have no instance: no atom is possible. */
    private static void enterBans(StableFoundry f, int times) {
        for (int i = 0; i < times; i++) {
            ban(f, 0);
        }
    }

    @Sentence("An instance of a rule is what comes of it by constants for its variables, which lie in their intervals, if there are such, if all comparisons hold, and all atoms of its body that have to be so are possible.")
    void text_instance_needsInterval_comparisonsAndPossibleAtoms() {
        Given row = given(1).and(f -> ten(f)).and(f -> f.weak(1, 0)).and(f -> f.body(0, -1, 0, false));
        row.and(StableFoundry::enter).answers(1020, StableFoundry::ground);
        row.and(f -> f.interval(0, 4, 5)).and(StableFoundry::enter).answers(1012, StableFoundry::ground);
        row.and(f -> f.compare(3, 9, -1)).and(StableFoundry::enter).answers(1011, StableFoundry::ground);
        row.and(f -> f.body(0, 20, 0, false)).and(StableFoundry::enter).answers(1019, StableFoundry::ground);
        given(1).and(f -> fact(f, 0, 9, 0)).and(f -> f.weak(1, 0)).and(f -> f.body(0, -1, 0, false))
                .and(StableFoundry::enter).answers("0 19000", Boundaries::instances);
        given(1).and(f -> f.weak(1, 0)).and(f -> f.body(0, 0, 0, true)).and(StableFoundry::enter)
                .answers("0", Boundaries::instances);
    }

    @Sentence("Atoms are possible if they are in a head of an instance, or external.")
    void text_possible_byAHeadOrAsAnExternal_byNothingElse() {
        given(0).and(f -> f.external(0, 0, 0)).answers(0, f -> f.atom(0, 0, 0));
        given(0).and(f -> choose(f, 0, 0, 0)).answers(0, f -> f.atom(0, 0, 0));
        given(0).and(f -> f.body(0, 0, 0, true)).and(StableFoundry::enter).answers(-1, f -> f.atom(0, 0, 0));
        given(0, 0).and(f -> rule(f, 0, 1)).answers(-1, f -> f.atom(0, 0, 0));
        given(2).and(f -> element(f, 0, 0)).and(StableFoundry::enter).answers(-1, f -> f.atom(0, 0, 0));
    }

    @Sentence("When a rule is entered, all rules are gone through, by rising numbers,")
    void text_entering_theEarlierRulesAreGoneThroughFirst() {
        Given draft = given(0, 0, 0).and(f -> rule(f, 2, 0)).and(f -> f.head(0, 0, 0)).and(f -> f.head(1, 0, 0));
        draft.answers(0, StableFoundry::ground);
        draft.and(StableFoundry::enter).answers("10000 0", Boundaries::instances);
        draft.and(StableFoundry::enter).answers("0 1 2", BoundaryAtomsTest::numbers);
        Given waiting = given(0, 0, 0).and(f -> rule(f, 1, 0)).and(f -> rule(f, 2, 0));
        waiting.and(f -> rule(f, 0)).answers("20000 0 10000", Boundaries::instances);
        waiting.and(f -> rule(f, 0)).answers("0 1 2", BoundaryAtomsTest::numbers);
    }

    @Sentence("all rules are gone through, by rising numbers, each with all constants for its variables, the lowest variable counting most, by rising constants")
    void text_numbering_lowestVariableCountsMost_byRisingConstants() {
        given().and(f -> draftTimes(f, 2, 3)).and(StableFoundry::enter)
                .answers("0 100 200 1000 1100 1200", Boundaries::instances);
        given().and(f -> f.compare(1, -4, -3)).and(f -> f.interval(3, 8, 9)).and(f -> f.interval(2, 8, 9))
                .and(StableFoundry::enter).answers("89 98", Boundaries::instances);
    }

    @Sentence("what is an instance then, and was none yet, gets the next number, and its head atoms that were not possible get the next numbers as atoms, in their order, and are possible at once")
    void text_numbering_headAtomsArePossibleAtOnce() {
        Given rising = given(1).and(f -> fact(f, 0, 6, 0)).and(f -> f.head(0, 20, 0)).and(f -> f.body(0, -1, 0, false));
        rising.and(StableFoundry::enter).answers("0 16000 17000 18000", Boundaries::instances);
        Given order = given(0, 0, 0).and(f -> f.head(2, 0, 0)).and(f -> f.head(0, 0, 0)).and(f -> f.head(2, 0, 0));
        order.and(StableFoundry::enter).answers("1 -1 0", BoundaryAtomsTest::numbers);
    }

    private static String numbers(StableFoundry f) {
        return f.atom(0, 0, 0) + " " + f.atom(1, 0, 0) + " " + f.atom(2, 0, 0);
    }

    /** From each constant of the predicate 0 the one before it: only in the next round. */
    private static void fallingChain(StableFoundry f) {
        f.head(0, -1, 0);
        f.body(0, 20, 0, false);
        f.interval(0, 0, 9);
        f.enter();
    }

    @Sentence("that is done again and again until nothing new comes.")
    void text_numbering_againAndAgain_tillTheLastOne() {
        Given falling = given(1).and(BoundaryAtomsTest::fallingChain).and(f -> fact(f, 0, 9, 0));
        falling.answers("10000 8000 7000 6000 5000 4000 3000 2000 1000 0", Boundaries::instances);
        falling.answers(9, f -> f.atom(0, 0, 0));
    }

    @Sentence("that is done again and again until nothing new comes.")
    void text_numbering_roundAfterRound_to12Atoms() {
        Given rounds = given(1, 0, 0).and(f -> f.body(0, 0, 0, false)).and(f -> rule(f, 2, 1))
                .and(f -> f.body(0, 0, 0, false)).and(f -> rule(f, 1)).and(BoundaryAtomsTest::fallingChain);
        rounds.answers(0, StableFoundry::ground);
        rounds.and(f -> fact(f, 0, 9, 0)).answers("30000 28000 27000 26000 25000 24000 23000 22000 21000 20000 10000 0",
                Boundaries::instances);
        rounds.and(f -> fact(f, 0, 9, 0)).answers(11, f -> f.atom(2, 0, 0));
    }

    @Sentence("Numbers stay.")
    void text_numbers_ofAtomsAndInstances_stay() {
        Given three = given(1).and(f -> fact(f, 0, 5, 0)).and(f -> f.external(0, 9, 0))
                .and(BoundaryAtomsTest::fallingChain);
        three.answers("0 1", f -> f.atom(0, 5, 0) + " " + f.atom(0, 9, 0));
        three.answers("0 14000 18000 13000 17000 12000 16000 11000 15000 10000", Boundaries::instances);
        three.and(f -> fact(f, 0, 0, 0)).answers("0 14000 18000 13000 17000 12000 16000 11000 15000 10000 20000",
                Boundaries::instances);
    }

    @Sentence("There are at most 12 atoms and 60 instances.")
    void text_limits_12AtomsAnd60Instances_areLetIn() {
        Given full = given(2, 0).and(f -> f.head(0, -1, -2)).and(f -> draftTimes(f, 3, 4)).and(StableFoundry::enter)
                .and(f -> draftTimes(f, 6, 8)).and(f -> f.weak(1, 0)).and(StableFoundry::enter);
        full.answers(1260, StableFoundry::ground);
        full.answers("11 15700", f -> f.atom(0, 2, 3) + " " + f.instance(59));
        full.answers("4095 48", f -> f.answer(0) + " " + f.cost(0, 0));
        full.refuses(INDEX, f -> f.instance(60));
        full.refuses(INDEX, f -> f.bar(12));
        full.refuses(STATE, f -> f.external(1, 0, 0));
        full.refuses(STATE, StableFoundry::enter);
    }

    // ---- promise 14

    private Given threeKinds() {
        return given(0, 1, 2);
    }

    private static void refusesConstants(Given given, AtomCall call) {
        for (int term : NO_CONSTANTS) {
            given.refuses(ARGUMENT, f -> call.on(f, 1, term, 0));
            given.refuses(ARGUMENT, f -> call.on(f, 2, term, 9));
            given.refuses(ARGUMENT, f -> call.on(f, 2, 9, term));
        }
        for (int term : new int[] {1, 9, -1, 10, LOW, HIGH}) {
            given.refuses(ARGUMENT, f -> call.on(f, 0, term, 0));
            given.refuses(ARGUMENT, f -> call.on(f, 0, 0, term));
            given.refuses(ARGUMENT, f -> call.on(f, 1, 9, term));
        }
    }

    private static void refusesPredicates(Given given, AtomCall call) {
        for (int predicate : new int[] {-1, 3, 6, LOW, HIGH}) {
            given.refuses(INDEX, f -> call.on(f, predicate, 0, 0));
        }
    }

    @Sentence(promise = 14, value = "if it was not possible, it gets the next number, and all rules are gone through as when one is entered.")
    void external_notPossible_getsTheNextNumber_andBringsInstances() {
        Given chain = given(1).and(BoundaryAtomsTest::fallingChain).and(f -> f.external(0, 2, 0));
        chain.answers("302 1000 0", f -> f.ground() + " " + f.instance(0) + " " + f.instance(1));
        chain.answers("3 403", f -> f.external(0, 3, 0) + " " + f.ground());
    }

    @Sentence(promise = 14, value = "Makes an atom external;")
    void external_possibleAlready_keepsItsNumber_andBringsNothing() {
        Given fact = given(0, 0).and(f -> free(f, 0, 1));
        fact.answers("1 202", f -> f.external(1, 0, 0) + " " + f.ground());
        fact.refuses(STATE, f -> f.assign(1, 0));
        fact.and(f -> f.external(1, 0, 0)).answers(0, f -> f.assign(1, 1));
        fact.and(f -> f.external(1, 0, 0)).refuses(STATE, f -> f.assign(0, 1));
    }

    @Sentence(promise = 14, value = "Makes an atom external;")
    void external_external_already_staysAsItIs() {
        for (int state = 0; state <= 2; state++) {
            int how = state;
            given(0).and(f -> f.external(0, 0, 0)).and(f -> f.assign(0, how)).and(f -> f.external(0, 0, 0))
                    .answers(how, f -> f.assign(0, 0));
        }
    }

    @Sentence(promise = 14, value = "- `predicate`: a predicate")
    void external_theFirstAndTheLastPredicate_areLetIn() {
        threeKinds().answers("0 1 2", f -> f.external(0, 0, 0) + " " + f.external(1, 0, 0) + " "
                + f.external(2, 0, 0));
        given(0, 0, 0, 0, 0, 0).answers(0, f -> f.external(5, 0, 0));
    }

    @Sentence(promise = 14, value = "- `first`: 0 to 9; 0 if it has no such place")
    void external_first_0_to_9_areLetIn() {
        for (int constant = 0; constant < 10; constant++) {
            int first = constant;
            threeKinds().answers("0 0", f -> f.external(1, first, 0) + " " + f.atom(1, first, 0));
            threeKinds().answers("0 0", f -> f.external(2, first, 3) + " " + f.atom(2, first, 3));
        }
        threeKinds().answers(0, f -> f.external(0, 0, 0));
    }

    @Sentence(promise = 14, value = "- `second`: likewise")
    void external_second_0_to_9_areLetIn() {
        for (int constant = 0; constant < 10; constant++) {
            int second = constant;
            threeKinds().answers("0 0", f -> f.external(2, 3, second) + " " + f.atom(2, 3, second));
        }
        threeKinds().answers(0, f -> f.external(1, 9, 0));
    }

    @Sentence(promise = 14, value = "Returns number of the atom.")
    void external_returnsTheNumber_0_to_11() {
        Given eleven = given(1, 0, 0).and(f -> freeRow(f, 0, 0, 9)).and(f -> rule(f, 1));
        eleven.answers(11, f -> f.external(2, 0, 0));
        eleven.answers(0, f -> f.external(0, 0, 0));
        eleven.answers(10, f -> f.external(1, 0, 0));
    }

    @Sentence(promise = 14, value = "Throws `IndexOutOfBoundsException` if there is no such predicate")
    void external_noSuchPredicate() {
        refusesPredicates(threeKinds(), EXTERNAL);
        given().refuses(INDEX, f -> f.external(0, 0, 0));
        given(0, 0, 0, 0, 0, 0).refuses(INDEX, f -> f.external(6, 0, 0));
    }

    @Sentence(promise = 14, value = "Throws `IllegalArgumentException` if first or second is out of range")
    void external_noConstant_orAConstantInNoPlace() {
        refusesConstants(threeKinds(), EXTERNAL);
    }

    @Sentence(promise = 14, value = "Throws `IllegalStateException` if there would be more than 12 atoms or 60 instances")
    void external_the12thAtom_isLetIn_the13thRefused() {
        Given eleven = given(1, 1).and(f -> freeRow(f, 0, 0, 9)).and(f -> f.external(1, 0, 0));
        eleven.answers("11 1210", f -> f.external(1, 1, 0) + " " + f.ground());
        Given twelve = eleven.and(f -> f.external(1, 1, 0));
        twelve.refuses(STATE, f -> f.external(1, 2, 0));
        twelve.answers("0 11", f -> f.external(0, 0, 0) + " " + f.external(1, 1, 0));
    }

    @Sentence(promise = 14, value = "Throws `IllegalStateException` if there would be more than 12 atoms or 60 instances")
    void external_tooManyAtoms_byWhatRulesBring() {
        Given two = given(1, 1).and(BoundaryAtomsTest::fallingChain).and(f -> freeRow(f, 1, 0, 1));
        two.answers("2 1211", f -> f.external(0, 9, 0) + " " + f.ground());
        Given three = given(1, 1).and(BoundaryAtomsTest::fallingChain).and(f -> freeRow(f, 1, 0, 2));
        three.refuses(STATE, f -> f.external(0, 9, 0));
        three.answers("3 1211", f -> f.external(0, 8, 0) + " " + f.ground());
    }

    @Sentence(promise = 14, value = "Throws `IllegalStateException` if there would be more than 12 atoms or 60 instances")
    void external_the60thInstance_isLetIn_the61stRefused() {
        Given waiting = given(0, 0).and(f -> f.body(0, 0, 0, false)).and(f -> draftTimes(f, 6, 9))
                .and(StableFoundry::enter);
        Given six = waiting.and(f -> f.weak(1, 0)).and(f -> draftTimes(f, 2, 3)).and(StableFoundry::enter);
        six.answers("0 160", f -> f.external(0, 0, 0) + " " + f.ground());
        Given seven = six.and(f -> f.weak(1, 0)).and(StableFoundry::enter);
        seven.refuses(STATE, f -> f.external(0, 0, 0));
        seven.answers("0 107", f -> f.external(1, 0, 0) + " " + f.ground());
    }

    @Sentence(promise = 14, value = "Throws `IllegalStateException` if there would be more than 12 atoms or 60 instances")
    void external_whichBringsNoInstance_isLetIn_whereThereAre60() {
        Given full = given(0, 0).and(f -> draftTimes(f, 6, 10)).and(StableFoundry::enter).and(f -> ban(f, 0));
        full.answers(60, StableFoundry::ground);
        full.refuses(STATE, f -> f.external(0, 0, 0));
        full.answers("0 160", f -> f.external(1, 0, 0) + " " + f.ground());
    }

    @Sentence("If several apply, IndexOutOfBoundsException goes first, then IllegalArgumentException.")
    void external_whichOfSeveralGoesFirst() {
        Given full = given(1, 1).and(f -> freeRow(f, 0, 0, 9)).and(f -> freeRow(f, 1, 0, 1));
        full.refuses(INDEX, f -> f.external(2, 10, 0));
        full.refuses(INDEX, f -> f.external(-1, 0, 1));
        full.refuses(ARGUMENT, f -> f.external(1, 10, 0));
        full.refuses(ARGUMENT, f -> f.external(1, 2, 1));
        full.refuses(STATE, f -> f.external(1, 2, 0));
    }

    // ---- promise 15

    private Given oneExternal() {
        return given(0, 0).and(f -> f.external(0, 0, 0)).and(f -> rule(f, 1));
    }

    @Sentence(promise = 15, value = "Lets an external be false (0), true (1) or free (2).")
    void assign_false_trueAndFree_tellTheAnswers() {
        String[] due = {"2", "3", "2 3"};
        for (int state = 0; state <= 2; state++) {
            int how = state;
            oneExternal().and(f -> f.assign(0, how)).answers(due[how], Boundaries::sets);
            oneExternal().and(StableFoundry::answers).and(f -> f.assign(0, how)).answers(due[how], Boundaries::sets);
        }
        oneExternal().answers("2", Boundaries::sets);
    }

    @Sentence(promise = 15, value = "- `atom`: an atom")
    void assign_atom_0_and11_areLetIn() {
        Given twelve = given(1, 0, 0).and(f -> f.external(1, 0, 0)).and(f -> freeRow(f, 0, 0, 9))
                .and(f -> f.external(2, 0, 0));
        twelve.answers("0 0", f -> f.assign(0, 1) + " " + f.assign(11, 1));
        twelve.and(f -> f.assign(0, 1)).and(f -> f.assign(11, 1)).answers("2049", f -> f.answer(0));
    }

    @Sentence(promise = 15, value = "- `how`: 0 to 2")
    void assign_how_0_to_2_areLetIn() {
        oneExternal().answers(0, f -> f.assign(0, 0));
        oneExternal().answers(0, f -> f.assign(0, 1));
        oneExternal().answers(0, f -> f.assign(0, 2));
    }

    @Sentence(promise = 15, value = "Returns how it was.")
    void assign_returnsHowItWas_forEachToEach() {
        for (int from = 0; from <= 2; from++) {
            for (int to = 0; to <= 2; to++) {
                int before = from;
                int after = to;
                oneExternal().and(f -> f.assign(0, before)).answers(before + " " + after,
                        f -> f.assign(0, after) + " " + f.assign(0, 0));
            }
        }
    }

    @Sentence(promise = 15, value = "Throws `IndexOutOfBoundsException` if there is no such atom")
    void assign_noSuchAtom() {
        for (int atom : new int[] {-1, 2, 12, 32, LOW, HIGH}) {
            oneExternal().refuses(INDEX, f -> f.assign(atom, 0));
        }
        given(0).refuses(INDEX, f -> f.assign(0, 0));
    }

    @Sentence(promise = 15, value = "Throws `IllegalArgumentException` if how is out of range")
    void assign_how_below0_orAbove2() {
        for (int how : new int[] {-1, 3, LOW, HIGH}) {
            oneExternal().refuses(ARGUMENT, f -> f.assign(0, how));
            oneExternal().and(f -> f.assign(0, 2)).refuses(ARGUMENT, f -> f.assign(0, how));
        }
    }

    @Sentence(promise = 15, value = "Throws `IllegalStateException` if it is no external")
    void assign_toNoExternal() {
        for (int how = 0; how <= 2; how++) {
            int state = how;
            oneExternal().refuses(STATE, f -> f.assign(1, state));
        }
        oneExternal().and(f -> f.external(1, 0, 0)).answers(0, f -> f.assign(1, 0));
    }

    @Sentence("If several apply, IndexOutOfBoundsException goes first, then IllegalArgumentException.")
    void assign_whichOfSeveralGoesFirst() {
        oneExternal().refuses(INDEX, f -> f.assign(2, 3));
        oneExternal().refuses(INDEX, f -> f.assign(-1, -1));
        oneExternal().refuses(ARGUMENT, f -> f.assign(1, 3));
        oneExternal().refuses(ARGUMENT, f -> f.assign(1, -1));
    }

    // ---- promise 16

    private Given two() {
        return given(0, 0).and(f -> free(f, 0, 1));
    }

    private static void prefer(StableFoundry f, int times) {
        for (int i = 0; i < times; i++) {
            f.prefer(0, 1);
        }
    }

    @Sentence(promise = 16, value = "Adds a preference.")
    void prefer_ranksAnswers_alsoThoseFoundBefore() {
        two().answers("2222", Boundaries::ranks);
        two().and(f -> f.prefer(0, 1)).answers("2212", Boundaries::ranks);
        two().and(Boundaries::ranks).and(f -> f.prefer(1, 0)).answers("2122", Boundaries::ranks);
    }

    @Sentence(promise = 16, value = "- `atom`: an atom")
    void prefer_atom_theFirstAndTheLast_areLetIn() {
        Given twelve = given(1, 1).and(f -> freeRow(f, 0, 0, 9)).and(f -> freeRow(f, 1, 0, 1));
        twelve.answers(1, f -> f.prefer(0, 1));
        twelve.answers(1, f -> f.prefer(11, 0));
    }

    @Sentence(promise = 16, value = "- `other`: another atom")
    void prefer_other_theFirstAndTheLast_areLetIn() {
        Given twelve = given(1, 1).and(f -> freeRow(f, 0, 0, 9)).and(f -> freeRow(f, 1, 0, 1));
        twelve.answers(1, f -> f.prefer(1, 0));
        twelve.answers(1, f -> f.prefer(10, 11));
    }

    @Sentence(promise = 16, value = "Returns how many there are then.")
    void prefer_returns1_to_6_alsoForTheSameOneAgain() {
        two().answers("1 2 3 4 5 6", f -> f.prefer(0, 1) + " " + f.prefer(0, 1) + " " + f.prefer(1, 0) + " "
                + f.prefer(1, 0) + " " + f.prefer(0, 1) + " " + f.prefer(0, 1));
    }

    @Sentence(promise = 16, value = "Throws `IndexOutOfBoundsException` if there is no such atom, of either")
    void prefer_noSuchAtom_ofEither() {
        for (int atom : new int[] {-1, 2, 12, LOW, HIGH}) {
            two().refuses(INDEX, f -> f.prefer(atom, 0));
            two().refuses(INDEX, f -> f.prefer(0, atom));
            two().refuses(INDEX, f -> f.prefer(atom, atom));
        }
        given(0, 0).refuses(INDEX, f -> f.prefer(0, 1));
    }

    @Sentence(promise = 16, value = "Throws `IllegalArgumentException` if both are the same")
    void prefer_anAtomToItself() {
        two().refuses(ARGUMENT, f -> f.prefer(0, 0));
        two().refuses(ARGUMENT, f -> f.prefer(1, 1));
    }

    @Sentence(promise = 16, value = "Throws `IllegalStateException` if there are 6")
    void prefer_theSixth_isLetIn_theSeventhRefused() {
        two().and(f -> prefer(f, 5)).answers(6, f -> f.prefer(1, 0));
        two().and(f -> prefer(f, 6)).refuses(STATE, f -> f.prefer(0, 1));
        two().and(f -> prefer(f, 6)).refuses(STATE, f -> f.prefer(1, 0));
    }

    @Sentence("If several apply, IndexOutOfBoundsException goes first, then IllegalArgumentException.")
    void prefer_whichOfSeveralGoesFirst() {
        two().refuses(INDEX, f -> f.prefer(2, 2));
        Given full = two().and(f -> prefer(f, 6));
        full.refuses(INDEX, f -> f.prefer(0, 2));
        full.refuses(INDEX, f -> f.prefer(-1, -1));
        full.refuses(ARGUMENT, f -> f.prefer(1, 1));
    }

    // ---- promise 17

    @Sentence(promise = 17, value = "Returns the number of an atom.")
    void atom_changesNothing() {
        Given asked = threeKinds().and(f -> f.atom(1, 3, 0));
        asked.answers("-1 0", f -> f.atom(1, 3, 0) + " " + f.ground());
    }

    @Sentence(promise = 17, value = "- `predicate`: a predicate")
    void atom_theFirstAndTheLastPredicate_areLetIn() {
        threeKinds().answers("-1 -1 -1", f -> f.atom(0, 0, 0) + " " + f.atom(1, 0, 0) + " " + f.atom(2, 0, 0));
        given(0, 0, 0, 0, 0, 0).answers(-1, f -> f.atom(5, 0, 0));
    }

    @Sentence(promise = 17, value = "- `first`: 0 to 9; 0 if it has no such place")
    void atom_first_0_to_9_areLetIn() {
        for (int constant = 0; constant < 10; constant++) {
            int first = constant;
            threeKinds().and(f -> fact(f, 1, first, 0)).answers(0, f -> f.atom(1, first, 0));
            threeKinds().and(f -> fact(f, 2, first, 9)).answers(0, f -> f.atom(2, first, 9));
        }
        threeKinds().and(f -> fact(f, 0, 0, 0)).answers(0, f -> f.atom(0, 0, 0));
    }

    @Sentence(promise = 17, value = "- `second`: likewise")
    void atom_second_0_to_9_areLetIn() {
        for (int constant = 0; constant < 10; constant++) {
            int second = constant;
            threeKinds().and(f -> fact(f, 2, 9, second)).answers(0, f -> f.atom(2, 9, second));
        }
        threeKinds().and(f -> fact(f, 1, 9, 0)).answers(0, f -> f.atom(1, 9, 0));
    }

    @Sentence(promise = 17, value = "Returns the number, -1 if it is not possible.")
    void atom_returns0_to_11_orMinus1() {
        Given twelve = given(1, 1).and(f -> freeRow(f, 0, 0, 9)).and(f -> freeRow(f, 1, 8, 9));
        twelve.answers("0 9 10 11 -1", f -> f.atom(0, 0, 0) + " " + f.atom(0, 9, 0) + " " + f.atom(1, 8, 0) + " "
                + f.atom(1, 9, 0) + " " + f.atom(1, 7, 0));
    }

    @Sentence(promise = 17, value = "Throws `IndexOutOfBoundsException` if there is no such predicate")
    void atom_noSuchPredicate() {
        refusesPredicates(threeKinds(), ATOM);
        given().refuses(INDEX, f -> f.atom(0, 0, 0));
        given(0, 0, 0, 0, 0, 0).refuses(INDEX, f -> f.atom(6, 0, 0));
    }

    @Sentence(promise = 17, value = "Throws `IllegalArgumentException` if first or second is out of range")
    void atom_noConstant_orAConstantInNoPlace() {
        refusesConstants(threeKinds(), ATOM);
    }

    @Sentence("If several apply, IndexOutOfBoundsException goes first, then IllegalArgumentException.")
    void atom_ofNoPredicate_andOutOfRange_isIndexOutOfBounds() {
        threeKinds().refuses(INDEX, f -> f.atom(3, 10, 0));
        threeKinds().refuses(INDEX, f -> f.atom(-1, 0, -1));
    }

    // ---- promises 18 and 19

    @Sentence(promise = 18, value = "Returns how many instances there are, and 100 times how many atoms.")
    void ground_fromNothing_to12AtomsAnd60Instances() {
        given().answers(0, StableFoundry::ground);
        given().and(StableFoundry::enter).answers(1, StableFoundry::ground);
        given(0).and(f -> f.external(0, 0, 0)).answers(100, StableFoundry::ground);
        given(1, 1).and(f -> freeRow(f, 0, 0, 9)).and(f -> freeRow(f, 1, 0, 1)).and(f -> draftTimes(f, 6, 8))
                .and(StableFoundry::enter).answers(1260, StableFoundry::ground);
    }

    @Sentence(promise = 19, value = "Returns the same, found from nothing for all rules and externals that there are.")
    void groundAnew_fromNothing_to12AtomsAnd60Instances() {
        given().answers(0, StableFoundry::groundAnew);
        given().and(StableFoundry::enter).answers(1, StableFoundry::groundAnew);
        given(0).and(f -> f.external(0, 0, 0)).answers(100, StableFoundry::groundAnew);
        given(1, 1).and(f -> freeRow(f, 0, 0, 9)).and(f -> freeRow(f, 1, 0, 1)).and(f -> draftTimes(f, 6, 8))
                .and(StableFoundry::enter).answers(1260, StableFoundry::groundAnew);
    }

    @Sentence(promise = 19, value = "Returns the same, found from nothing for all rules and externals that there are.")
    void groundAnew_byExternals_false_trueOrFree_alike() {
        for (int state = 0; state <= 2; state++) {
            int how = state;
            given(1).and(BoundaryAtomsTest::fallingChain).and(f -> f.external(0, 9, 0)).and(f -> f.assign(0, how))
                    .answers(1009, StableFoundry::groundAnew);
        }
    }

    @Sentence(promise = 19, value = "Returns the same, found from nothing for all rules and externals that there are.")
    void groundAnew_leavesNumbersAsTheyAre() {
        Given later = given(1).and(f -> fact(f, 0, 5, 0)).and(f -> f.external(0, 9, 0))
                .and(BoundaryAtomsTest::fallingChain).and(StableFoundry::groundAnew);
        later.answers("0 1 14000", f -> f.atom(0, 5, 0) + " " + f.atom(0, 9, 0) + " " + f.instance(1));
        later.and(StableFoundry::groundAnew).answers("1010 1010", f -> f.groundAnew() + " " + f.ground());
    }

    @Sentence(promise = 19, value = "Returns the same, found from nothing for all rules and externals that there are.")
    void groundAnew_afterARefusedCall_isAsBefore() {
        Given row = given(1, 1).and(f -> freeRow(f, 0, 0, 9))
                .and(f -> told(f, doing(g -> freeRow(g, 1, 0, 2))));
        row.answers(1010, StableFoundry::groundAnew);
        row.and(f -> f.interval(0, 8, 9)).and(StableFoundry::enter).answers(1212, StableFoundry::groundAnew);
    }

    // ---- promise 20

    @Sentence(promise = 20, value = "Returns an instance.")
    void instance_asItWasFound() {
        given(1).and(f -> freeRow(f, 0, 3, 4)).and(StableFoundry::enter).answers("3000 4000 10000",
                Boundaries::instances);
    }

    @Sentence(promise = 20, value = "- `instance`: 0 for the first one")
    void instance_theFirstAndTheLast_areLetIn() {
        Given sixty = given(0).and(f -> draftTimes(f, 6, 10)).and(StableFoundry::enter);
        sixty.answers(0, f -> f.instance(0));
        sixty.answers(5900, f -> f.instance(59));
    }

    @Sentence(promise = 20, value = "Returns 10000 * its rule + the constants of the variables 0 to 3 as four digits, 0 for what is no variable of it.")
    void instance_returns0_to_199999() {
        Given row = given(1).and(f -> fact(f, 0, 9, 0));
        row.answers(0, f -> f.instance(0));
        Given last = given(1).and(f -> f.external(0, 9, 0)).and(f -> enterRules(f, 19));
        last.and(f -> nines(f)).answers("19 199999", f -> f.enter() + " " + f.instance(0));
    }

    private static void enterRules(StableFoundry f, int times) {
        for (int i = 0; i < times; i++) {
            f.compare(2, 1, 1);
            f.enter();
        }
    }

    private static void nines(StableFoundry f) {
        for (int variable = 0; variable < 4; variable++) {
            f.interval(variable, 9, 9);
        }
        f.compare(0, -1, -2);
        f.compare(0, -3, -4);
    }

    @Sentence(promise = 20, value = "Returns 10000 * its rule + the constants of the variables 0 to 3 as four digits, 0 for what is no variable of it.")
    void instance_ofAll9_isOfItsOwnRule() {
        Given nines = given(2).and(f -> nines(f)).and(f -> f.head(0, -1, -4)).and(StableFoundry::enter);
        nines.answers("9999 0 1", f -> f.instance(0) + " " + f.atom(0, 9, 9) + " " + f.answer(0));
        Given last = given(2).and(f -> enterRules(f, 19)).and(f -> nines(f)).and(f -> f.head(0, -1, -4))
                .and(StableFoundry::enter);
        last.answers("199999 0 1 0", f -> f.instance(0) + " " + f.atom(0, 9, 9) + " " + f.answer(0) + " "
                + f.support(0, 0));
    }

    @Sentence(promise = 20, value = "Returns 10000 * its rule + the constants of the variables 0 to 3 as four digits, 0 for what is no variable of it.")
    void instance_ofVariables1And3Alone_has0ForTheOthers() {
        given().and(f -> f.compare(0, -2, -4)).and(f -> f.interval(1, 7, 8)).and(f -> f.interval(3, 0, 9))
                .and(f -> f.interval(0, 5, 5)).and(f -> f.interval(2, 5, 5)).and(StableFoundry::enter)
                .answers("707 808", Boundaries::instances);
    }

    @Sentence(promise = 20, value = "Throws `IndexOutOfBoundsException` if there is no such instance")
    void instance_noSuchInstance() {
        Given two = given(0, 0).and(f -> free(f, 0, 1));
        for (int instance : new int[] {-1, 2, 60, 64, LOW, HIGH}) {
            two.refuses(INDEX, f -> f.instance(instance));
        }
        given(0).refuses(INDEX, f -> f.instance(0));
        given(0).and(f -> ban(f, 0)).refuses(INDEX, f -> f.instance(0));
        given(0).and(f -> draftTimes(f, 6, 10)).and(StableFoundry::enter).refuses(INDEX, f -> f.instance(60));
    }
}
