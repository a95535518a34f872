/** The boundary sentences of "Loops", of those on exceptions, and of the promises 32 to 35. */
public final class BoundaryReasonsTest extends Boundaries {
    private static final int[] NO_ATOMS = {-1, 2, 12, 31, 32, LOW, HIGH};

    public static void main(String[] args) {
        new BoundaryReasonsTest().run();
    }

    private Given two() {
        return given(0, 0).and(f -> free(f, 0, 1));
    }

    private Given twelve() {
        return given(1, 1).and(f -> freeRow(f, 0, 0, 9)).and(f -> freeRow(f, 1, 0, 1));
    }

    private interface AtomNumberCall {
        Object on(StableFoundry foundry, int atom);
    }

    private void refusesAtoms(AtomNumberCall call) {
        for (int atom : NO_ATOMS) {
            two().refuses(INDEX, f -> call.on(f, atom));
        }
        given(0).refuses(INDEX, f -> call.on(f, 0));
        two().and(StableFoundry::enter).refuses(INDEX, f -> call.on(f, 2));
        twelve().answers(INDEX, f -> call.on(f, 12));
    }

    // ---- what is told

    /** One of the atoms 0 and 1 is so; 2 and 3 hang on one another; 0 costs 5 at the level 1, 1 costs 5 at 2. */
    private Given told() {
        return given(0, 0, 0, 0).and(f -> choose(f, 1, 1, 0, 1)).and(f -> rule(f, 2, 3)).and(f -> f.external(2, 0, 0))
                .and(f -> rule(f, 3, 2)).and(f -> weakOf(f, 5, 1, 0)).and(f -> weakOf(f, 5, 2, 1));
    }

    @Sentence("costs by levels, preferences, projections, brave and cautious consequences, least conflicting assumptions, loops, unfounded sets, supports and why something cannot be are told.")
    void text_told_costsPreferencesProjectionsAndConsequences() {
        told().answers("1 2", Boundaries::sets);
        told().answers("5 0 0 5", f -> f.cost(0, 1) + " " + f.cost(0, 2) + " " + f.cost(1, 1) + " " + f.cost(1, 2));
        told().answers("20", Boundaries::ranks);
        Given even = told().and(f -> weakOf(f, -5, 2, 1)).and(f -> weakOf(f, 5, 1, 1));
        even.answers("22", Boundaries::ranks);
        even.and(f -> f.prefer(1, 0)).answers("12", Boundaries::ranks);
        told().answers("2 1 3 0", f -> f.projected(1) + " " + f.projected(12) + " " + f.brave() + " " + f.cautious());
    }

    @Sentence("costs by levels, preferences, projections, brave and cautious consequences, least conflicting assumptions, loops, unfounded sets, supports and why something cannot be are told.")
    void text_told_conflictsLoopsUnfoundedSetsSupportsAndBars() {
        told().answers("3 4", f -> f.conflict(3, 4) + " " + f.conflict(4, 3));
        told().answers("0 12 12", f -> f.loop(0) + " " + f.loop(2) + " " + f.loop(3));
        told().answers("0 12 12", f -> f.unfounded(1) + " " + f.unfounded(13) + " " + f.unfounded(15));
        told().answers("0 0 -1", f -> f.support(0, 0) + " " + f.support(1, 1) + " " + f.support(0, 1));
        told().and(f -> ban(f, 1)).answers("5 -2", f -> f.bar(1) + " " + f.bar(2));
    }

    // ---- loops

    @Sentence("An atom hangs on another one if an instance has it in its head, and the other one among the atoms that have to be so.")
    void text_hangs_byAHead_aChoiceOrADisjunction_notByANotOrASum() {
        Given one = two().and(f -> rule(f, 0, 1));
        one.and(f -> rule(f, 1, 0)).answers(3, f -> f.loop(0));
        one.and(f -> f.body(0, 0, 0, false)).and(f -> choose(f, 0, 0, 1)).answers(3, f -> f.loop(1));
        one.and(f -> f.head(0, 0, 0)).and(f -> rule(f, 1, 0)).answers(3, f -> f.loop(1));
        one.and(f -> f.body(0, 0, 0, true)).and(f -> rule(f, 1)).answers(0, f -> f.loop(1));
        one.and(f -> f.sum(1, 1)).and(f -> f.element(1, 0, 0, 0)).and(f -> rule(f, 1)).answers(0, f -> f.loop(1));
        one.and(f -> f.weak(1, 1)).and(f -> ban(f, 0, 1)).answers(0, f -> f.loop(1));
    }

    @Sentence("Atoms that hang on one another, directly or by others, both ways, are a loop; an atom that hangs on itself is in one.")
    void text_loop_byOthers_bothWays_orByItself() {
        Given row = given(0, 0, 0, 0).and(f -> free(f, 0, 1, 2, 3)).and(f -> rule(f, 1, 0)).and(f -> rule(f, 2, 1));
        row.answers("0 0 0 0", BoundaryReasonsTest::loops);
        row.and(f -> rule(f, 0, 2)).answers("7 7 7 0", BoundaryReasonsTest::loops);
        row.and(f -> rule(f, 2, 2)).answers("0 0 4 0", BoundaryReasonsTest::loops);
        row.and(f -> rule(f, 2, 2)).and(f -> rule(f, 1, 2)).answers("0 6 6 0", BoundaryReasonsTest::loops);
        row.and(f -> rule(f, 0, 1)).and(f -> rule(f, 3, 2)).answers("3 3 0 0", BoundaryReasonsTest::loops);
        row.and(f -> rule(f, 0, 1)).and(f -> rule(f, 3, 2)).and(f -> rule(f, 2, 3))
                .answers("3 3 12 12", BoundaryReasonsTest::loops);
    }

    private static String loops(StableFoundry f) {
        return f.loop(0) + " " + f.loop(1) + " " + f.loop(2) + " " + f.loop(3);
    }

    @Sentence("A set of atoms within another set is unfounded in that if each instance that has one of its atoms in its head, and whose body holds in that other set, has one of its atoms among those that have to be so, or, if it is no choice, has a head atom that is so in the other set but not in the set of atoms itself;")
    void text_unfounded_byAnInstanceWhoseBodyHolds() {
        Given rules = given(0, 0).and(f -> f.external(0, 0, 0)).and(f -> rule(f, 1, 0));
        rules.answers("0 1 2 3", BoundaryReasonsTest::unfoundedOfTwo);
        rules.and(f -> rule(f, 0, 1)).answers("0 1 2 3", BoundaryReasonsTest::unfoundedOfTwo);
        rules.and(f -> rule(f, 0)).answers("0 0 2 0", BoundaryReasonsTest::unfoundedOfTwo);
        given(0, 0).and(f -> f.external(0, 0, 0)).and(f -> f.body(0, 0, 0, true)).and(f -> rule(f, 1))
                .answers("0 1 0 3", BoundaryReasonsTest::unfoundedOfTwo);
    }

    private static String unfoundedOfTwo(StableFoundry f) {
        return f.unfounded(0) + " " + f.unfounded(1) + " " + f.unfounded(2) + " " + f.unfounded(3);
    }

    @Sentence("or, if it is no choice, has a head atom that is so in the other set but not in the set of atoms itself;")
    void text_unfounded_byAnotherHeadAtom_butNotOfAChoice() {
        given(0, 0).and(f -> f.head(0, 0, 0)).and(f -> rule(f, 1))
                .answers("0 0 0 3", BoundaryReasonsTest::unfoundedOfTwo);
        given(0, 0).and(f -> choose(f, 0, 2, 0, 1)).answers("0 0 0 0", BoundaryReasonsTest::unfoundedOfTwo);
        given(0, 0).and(f -> choose(f, 0, 0, 0, 1)).answers("0 0 0 0", BoundaryReasonsTest::unfoundedOfTwo);
    }

    @Sentence("and if none of them is an external that is true or free.")
    void text_unfounded_noExternalThatIsTrueOrFree() {
        Given externals = given(0, 0).and(f -> f.external(0, 0, 0)).and(f -> f.external(1, 0, 0));
        externals.answers("0 1 2 3", BoundaryReasonsTest::unfoundedOfTwo);
        externals.and(f -> f.assign(0, 1)).answers("0 0 2 2", BoundaryReasonsTest::unfoundedOfTwo);
        externals.and(f -> f.assign(1, 2)).answers("0 1 0 1", BoundaryReasonsTest::unfoundedOfTwo);
        externals.and(f -> f.assign(0, 1)).and(f -> f.assign(0, 0))
                .answers("0 1 2 3", BoundaryReasonsTest::unfoundedOfTwo);
    }

    @Sentence("The union of such sets is told.")
    void text_unfounded_theUnion_alsoIfItIsNoneItself() {
        Given disjunction = given(0, 0).and(f -> f.head(0, 0, 0)).and(f -> rule(f, 1));
        disjunction.answers(3, f -> f.unfounded(3));
        disjunction.answers("1 2", Boundaries::sets);
    }

    // ---- exceptions

    @Sentence("IndexOutOfBoundsException is thrown for a predicate, atom, rule, instance, answer, level or number that does not exist;")
    void text_indexOutOfBounds_forEachKindOfNumber() {
        Given given = two();
        given.refuses(INDEX, f -> f.atom(2, 0, 0));
        given.refuses(INDEX, f -> f.loop(2));
        given.refuses(INDEX, f -> f.instance(2));
        given.refuses(INDEX, f -> f.answer(4));
        given.refuses(INDEX, f -> f.cost(0, 3));
        given.refuses(INDEX, f -> f.value(0, 4));
    }

    @Sentence("IllegalArgumentException for another argument out of range;")
    void text_illegalArgument_forTheOtherArguments() {
        two().refuses(ARGUMENT, f -> f.predicate(3));
        two().refuses(ARGUMENT, f -> f.compare(4, 0, 0));
        two().refusesToDo(ARGUMENT, f -> f.interval(4, 0, 0));
        two().refusesToDo(ARGUMENT, f -> f.sum(1, 0));
        two().refuses(ARGUMENT, f -> f.assign(0, 3));
        two().refuses(ARGUMENT, f -> f.unfounded(4));
    }

    @Sentence("and IllegalStateException if a call is not possible now.")
    void text_illegalState_ifACallIsNotPossibleNow_butAfterwards() {
        Given full = given(0).and(f -> f.sum(0, 0)).and(f -> f.weak(1, 0));
        full.refusesToDo(STATE, f -> f.sum(0, 0));
        full.refuses(STATE, f -> f.head(0, 0, 0));
        full.and(StableFoundry::enter).lets(f -> f.sum(0, 0));
        full.and(StableFoundry::drop).answers(1, f -> f.head(0, 0, 0));
        two().refuses(STATE, f -> f.assign(0, 1));
        two().and(f -> f.external(0, 0, 0)).answers(0, f -> f.assign(0, 1));
    }

    @Sentence("If several apply, IndexOutOfBoundsException goes first, then IllegalArgumentException.")
    void text_severalApply_ofTheCallsThatThrowOneKind() {
        two().refuses(INDEX, f -> f.cost(4, 3));
        two().refuses(INDEX, f -> f.value(-1, 4));
        two().refuses(INDEX, f -> f.support(4, 2));
        two().refuses(ARGUMENT, f -> f.conflict(4, 4));
        two().refuses(ARGUMENT, f -> f.assuming(-1, 4));
    }

    @Sentence("A call that throws an exception changes nothing.")
    void text_refusedCalls_oneAfterTheOther_changeNothing() {
        Given full = given(1, 0).and(f -> freeRow(f, 0, 0, 9)).and(f -> f.external(0, 3, 0)).and(f -> f.prefer(0, 1));
        Given refused = full.and(BoundaryReasonsTest::refusedCalls);
        refused.answers("1010 1010 1024 0", f -> f.ground() + " " + f.groundAnew() + " " + f.answers() + " "
                + f.assign(3, 2));
        refused.answers("1 2", f -> f.head(1, 0, 0) + " " + f.prefer(1, 0));
        refused.and(StableFoundry::drop).and(f -> rule(f, 1)).answers(1111, StableFoundry::ground);
        refused.refuses(ARGUMENT, StableFoundry::enter);
    }

    private static void refusedCalls(StableFoundry f) {
        f.choice(0, 1);
        for (Call call : new Call[] {g -> g.head(0, 10, 0), g -> g.body(2, 0, 0, false), g -> g.compare(0, 24, 0),
            g -> g.element(1, 1, 0, 0), doing(g -> g.choice(0, 2)), doing(g -> g.weak(1, 1)),
            doing(g -> g.difference(0, 1, 1)), doing(g -> g.interval(0, 9, 8)), doing(g -> g.sum(2, 1)),
            StableFoundry::enter, g -> g.external(0, 10, 0), g -> g.assign(0, 1), g -> g.assign(3, 3),
            g -> g.prefer(0, 0), g -> g.predicate(3)}) {
            told(f, call);
        }
    }

    @Sentence("A call that throws an exception changes nothing.")
    void text_refusedEnter_atomsAndInstancesFoundOnTheWay_areGone() {
        Given full = given(1, 1).and(f -> freeRow(f, 0, 0, 9)).and(f -> f.body(1, -1, 0, false))
                .and(f -> f.weak(1, 0)).and(StableFoundry::enter);
        Given draft = full.and(f -> f.head(1, -1, 0)).and(f -> f.interval(0, 5, 7));
        draft.refuses(STATE, StableFoundry::enter);
        draft.and(f -> told(f, StableFoundry::enter)).and(f -> f.interval(0, 7, 8)).and(StableFoundry::enter)
                .answers("10 11 27000 18000", f -> f.atom(1, 7, 0) + " " + f.atom(1, 8, 0) + " " + f.instance(10) + " "
                        + f.instance(13));
    }

    // ---- promise 32

    /** Of 0 or 1 the one or the other; 0, 1 and 2 by choice; 0 by a fact. */
    private Given supported() {
        return given(0, 0, 0).and(f -> f.head(0, 0, 0)).and(f -> rule(f, 1)).and(f -> choose(f, 0, 3, 0, 1, 2))
                .and(f -> rule(f, 0));
    }

    @Sentence(promise = 32, value = "Returns what supports an atom in an answer: the lowest instance that has it in its head, whose body holds in the answer, and which is a choice, or has no other head atom that is so in it.")
    void support_theLowest_whichIsAChoice_orAloneInItsHead() {
        supported().answers("1 3 5 7", Boundaries::sets);
        supported().answers("0 1 0 1", f -> f.support(0, 0) + " " + f.support(1, 0) + " " + f.support(2, 0) + " "
                + f.support(3, 0));
        supported().answers("1 1 1", f -> f.support(1, 1) + " " + f.support(2, 2) + " " + f.support(3, 1));
    }

    @Sentence(promise = 32, value = "whose body holds in the answer")
    void support_byABodyThatHolds() {
        Given bodies = given(0, 0, 0).and(f -> free(f, 0)).and(f -> rule(f, 1, 0))
                .and(f -> f.body(0, 0, 0, true)).and(f -> rule(f, 1));
        bodies.answers("2 3", Boundaries::sets);
        bodies.answers("2 1", f -> f.support(0, 1) + " " + f.support(1, 1));
    }

    @Sentence(promise = 32, value = "- `answer`: 0 for the first one")
    void support_theFirstAndTheLastAnswer_areLetIn() {
        twelve().answers("-1 0", f -> f.support(0, 0) + " " + f.support(4095, 0));
    }

    @Sentence(promise = 32, value = "- `atom`: an atom")
    void support_theFirstAndTheLastAtom_areLetIn() {
        twelve().answers("0 11", f -> f.support(4095, 0) + " " + f.support(4095, 11));
    }

    @Sentence(promise = 32, value = "Returns the instance; -1 if there is none, or the atom is not in the answer.")
    void support_minus1_forAnExternalAndForAnAtomThatIsNotInTheAnswer() {
        Given external = given(0, 0).and(f -> f.external(0, 0, 0)).and(f -> rule(f, 1, 0));
        external.answers("-1 -1", f -> f.support(0, 0) + " " + f.support(0, 1));
        external.and(f -> f.assign(0, 1)).answers("-1 0", f -> f.support(0, 0) + " " + f.support(0, 1));
        external.and(f -> f.assign(0, 2)).answers("-1 0", f -> f.support(1, 0) + " " + f.support(1, 1));
        external.and(f -> rule(f, 0)).answers("1 0", f -> f.support(0, 0) + " " + f.support(0, 1));
    }

    @Sentence(promise = 32, value = "Returns the instance; -1 if there is none, or the atom is not in the answer.")
    void support_theInstances0And59() {
        Given fiftyNine = given(0).and(f -> f.weak(1, 0)).and(f -> draftTimes(f, 6, 9)).and(StableFoundry::enter)
                .and(f -> f.weak(1, 0)).and(f -> draftTimes(f, 5, 1)).and(StableFoundry::enter);
        fiftyNine.and(f -> rule(f, 0)).answers("160 59", f -> f.ground() + " " + f.support(0, 0));
        given(0).and(f -> rule(f, 0)).and(f -> rule(f, 0)).answers(0, f -> f.support(0, 0));
    }

    @Sentence(promise = 32, value = "Throws `IndexOutOfBoundsException` if there is no such answer or atom")
    void support_noSuchAnswer() {
        for (int answer : new int[] {-1, 4, LOW, HIGH}) {
            two().refuses(INDEX, f -> f.support(answer, 0));
        }
        two().and(StableFoundry::enter).refuses(INDEX, f -> f.support(0, 0));
        twelve().answers(INDEX, f -> f.support(4096, 0));
    }

    @Sentence(promise = 32, value = "Throws `IndexOutOfBoundsException` if there is no such answer or atom")
    void support_noSuchAtom() {
        refusesAtoms((f, atom) -> f.support(0, atom));
        given().refuses(INDEX, f -> f.support(0, 0));
    }

    // ---- promise 33

    @Sentence(promise = 33, value = "Returns why an atom is in no answer: the lowest instance without which there would be an answer that has it (the other instances and the atoms being as they are).")
    void bar_theLowestInstance() {
        Given constraints = two().and(f -> ban(f, 0)).and(f -> ban(f, 1)).and(f -> ban(f, 0, 1));
        constraints.answers("2 3", f -> f.bar(0) + " " + f.bar(1));
        Given ring = given(0, 0).and(f -> differ(f, 0, 1, -1)).and(f -> free(f, 0)).and(f -> differ(f, 1, 0, 0, 0));
        ring.answers(0, f -> f.bar(0));
        Given odd = given(0, 0).and(f -> f.body(0, 0, 0, true)).and(f -> rule(f, 0)).and(f -> free(f, 1));
        odd.answers(0, f -> f.bar(1));
    }

    @Sentence(promise = 33, value = "(the other instances and the atoms being as they are)")
    void bar_theAtomsBeingAsTheyAre() {
        Given head = given(0, 0).and(f -> rule(f, 0)).and(f -> free(f, 1)).and(f -> ban(f, 0, 1));
        head.answers(0, f -> f.bar(1));
        Given least = given(0, 0).and(f -> f.head(0, 0, 0)).and(f -> rule(f, 1)).and(f -> rule(f, 1));
        least.answers("1 -1", f -> f.bar(0) + " " + f.bar(1));
        given(0, 0).and(f -> rule(f, 0)).and(f -> f.external(1, 0, 0)).and(f -> ban(f, 1))
                .answers("-1 -2", f -> f.bar(0) + " " + f.bar(1));
    }

    @Sentence(promise = 33, value = "the lowest instance without which there would be an answer that has it")
    void bar_byAChoice_aDisjunctionOrAConstraint() {
        two().and(f -> choose(f, 0, 0, 0)).answers("2 -1", f -> f.bar(0) + " " + f.bar(1));
        two().and(f -> choose(f, 3, 3, 0, 1)).answers("2 2", f -> f.bar(0) + " " + f.bar(1));
        given(0, 0, 0).and(f -> f.external(0, 0, 0)).and(f -> free(f, 1)).and(f -> f.body(1, 0, 0, false))
                .and(f -> f.head(0, 0, 0)).and(f -> rule(f, 2)).and(f -> ban(f, 2)).and(f -> ban(f, 0))
                .answers("3 1", f -> f.bar(0) + " " + f.bar(1));
    }

    @Sentence(promise = 33, value = "the lowest instance without which there would be an answer that has it")
    void bar_byADifference_theLowestOfARing() {
        Given ring = given(0, 0).and(f -> weakOf(f, 1, 0)).and(f -> free(f, 0)).and(f -> differ(f, 2, 3, -1))
                .and(f -> differ(f, 0, 1, -1, 0)).and(f -> differ(f, 1, 0, 0));
        ring.answers("3 0", f -> f.bar(0) + " " + sets(f));
        ring.and(f -> differ(f, 3, 2, 1, 0)).answers(3, f -> f.bar(0));
        ring.and(f -> f.body(0, 0, 0, true)).and(f -> f.difference(3, 2, 0)).and(StableFoundry::enter)
                .answers("3 ", f -> f.bar(0) + " " + sets(f));
        ring.and(f -> differ(f, 0, 1, -5, 0)).answers(4, f -> f.bar(0));
        ring.and(f -> free(f, 1)).and(f -> ban(f, 1)).answers("3 6", f -> f.bar(0) + " " + f.bar(1));
    }

    @Sentence(promise = 33, value = "Returns the instance; -1 if some answer has it, -2 if there is no such instance.")
    void bar_minus2_byTwoRings_orARingAndAConstraint() {
        Given ring = given(0).and(f -> free(f, 0)).and(f -> differ(f, 0, 1, -1, 0)).and(f -> differ(f, 1, 0, 0, 0));
        ring.answers("1 0", f -> f.bar(0) + " " + sets(f));
        ring.and(f -> differ(f, 2, 3, -1, 0)).and(f -> differ(f, 3, 2, 0, 0)).answers(-2, f -> f.bar(0));
        ring.and(f -> differ(f, 1, 2, 0, 0)).and(f -> differ(f, 2, 1, -1, 0)).answers(-2, f -> f.bar(0));
        ring.and(f -> differ(f, 1, 2, -1, 0)).and(f -> differ(f, 2, 0, 0, 0)).answers(1, f -> f.bar(0));
        ring.and(f -> ban(f, 0)).answers(-2, f -> f.bar(0));
    }

    @Sentence(promise = 33, value = "(the other instances and the atoms being as they are)")
    void bar_externalsBeingAsTheyAre() {
        Given external = given(0, 0).and(f -> f.external(0, 0, 0));
        external.and(f -> weakOf(f, 1, 0)).answers(-2, f -> f.bar(0));
        Given banned = external.and(f -> ban(f, 0));
        banned.answers(-2, f -> f.bar(0));
        banned.and(f -> f.assign(0, 1)).answers(0, f -> f.bar(0));
        banned.and(f -> f.assign(0, 2)).answers(0, f -> f.bar(0));
        Given with = external.and(f -> free(f, 1)).and(f -> ban(f, 0, 1));
        with.and(f -> f.assign(0, 1)).answers("-1 1", f -> f.bar(0) + " " + f.bar(1));
        with.and(f -> f.assign(0, 2)).answers("-1 -1", f -> f.bar(0) + " " + f.bar(1));
        with.answers("-2 -1", f -> f.bar(0) + " " + f.bar(1));
    }

    @Sentence(promise = 33, value = "- `atom`: an atom")
    void bar_theFirstAndTheLastAtom_areLetIn() {
        Given twelve = twelve().and(f -> f.body(0, 0, 0, false)).and(StableFoundry::enter)
                .and(f -> f.body(1, 1, 0, false)).and(StableFoundry::enter);
        twelve.answers("12 -1 13", f -> f.bar(0) + " " + f.bar(1) + " " + f.bar(11));
    }

    @Sentence(promise = 33, value = "Returns the instance; -1 if some answer has it, -2 if there is no such instance.")
    void bar_minus1_ifSomeAnswerHasIt() {
        two().answers(-1, f -> f.bar(0));
        two().and(f -> ban(f, 0, 1)).answers("-1 -1", f -> f.bar(0) + " " + f.bar(1));
        given(0).and(f -> rule(f, 0)).answers(-1, f -> f.bar(0));
    }

    @Sentence(promise = 33, value = "Returns the instance; -1 if some answer has it, -2 if there is no such instance.")
    void bar_minus2_ifNoSingleInstanceIsInTheWay() {
        given(0).and(f -> f.external(0, 0, 0)).answers(-2, f -> f.bar(0));
        two().and(f -> ban(f, 0)).and(f -> ban(f, 0)).answers(-2, f -> f.bar(0));
        two().and(StableFoundry::enter).and(StableFoundry::enter).answers(-2, f -> f.bar(0));
        two().and(f -> ban(f, 0)).and(StableFoundry::enter).answers("-2 3", f -> f.bar(0) + " " + f.bar(1));
    }

    @Sentence(promise = 33, value = "Returns the instance; -1 if some answer has it, -2 if there is no such instance.")
    void bar_theInstances0And59() {
        Given fiftyNine = given(0).and(f -> free(f, 0)).and(f -> f.weak(1, 0)).and(f -> draftTimes(f, 7, 8))
                .and(StableFoundry::enter).and(f -> weakOf(f, 1, 0)).and(f -> weakOf(f, 1, 0));
        fiftyNine.and(f -> ban(f, 0)).answers("160 59", f -> f.ground() + " " + f.bar(0));
        given(0).and(StableFoundry::enter).and(f -> free(f, 0)).answers(0, f -> f.bar(0));
    }

    @Sentence(promise = 33, value = "Throws `IndexOutOfBoundsException` if there is no such atom")
    void bar_noSuchAtom() {
        refusesAtoms((f, atom) -> f.bar(atom));
    }

    // ---- promise 34

    @Sentence(promise = 34, value = "Returns the loop in which an atom is.")
    void loop_changesWithTheRules() {
        Given one = two().and(f -> rule(f, 0, 1));
        one.answers(0, f -> f.loop(0));
        one.and(f -> f.loop(0)).and(f -> rule(f, 1, 0)).answers(3, f -> f.loop(0));
    }

    /** Each atom hangs on the one before it: 12 of them, the last one by the first one, or not. */
    private Given longest() {
        return given(1, 0, 0).and(f -> f.head(0, 20, 0)).and(f -> f.body(0, -1, 0, false)).and(StableFoundry::enter)
                .and(f -> fact(f, 0, 0, 0)).and(f -> f.body(0, 9, 0, false)).and(f -> rule(f, 1)).and(f -> rule(f, 2, 1));
    }

    @Sentence(promise = 34, value = "Returns the loop in which an atom is.")
    void loop_byTheInstances0And59() {
        given(0).and(f -> f.external(0, 0, 0)).and(f -> rule(f, 0, 0)).answers("0 1", f -> f.instance(0) + " "
                + f.loop(0));
        given(0).and(f -> f.external(0, 0, 0)).and(f -> draftTimes(f, 6, 9)).and(StableFoundry::enter)
                .and(f -> draftTimes(f, 5, 1)).and(StableFoundry::enter).and(f -> rule(f, 0, 0))
                .answers("160 1", f -> f.ground() + " " + f.loop(0));
    }

    @Sentence(promise = 34, value = "- `atom`: an atom")
    void loop_theFirstAndTheLastAtom_areLetIn() {
        longest().answers("1212 0 0", f -> f.ground() + " " + f.loop(0) + " " + f.loop(11));
        longest().and(f -> f.body(2, 0, 0, false)).and(f -> fact(f, 0, 0, 0))
                .answers("4095 4095", f -> f.loop(0) + " " + f.loop(11));
    }

    @Sentence(promise = 34, value = "Returns the loop, a set; 0 if it is in none.")
    void loop_0_ifItIsInNone_itself_ifItHangsOnItself() {
        two().answers("0 0", f -> f.loop(0) + " " + f.loop(1));
        two().and(f -> rule(f, 1, 1)).answers("0 2", f -> f.loop(0) + " " + f.loop(1));
        longest().and(f -> rule(f, 2, 2)).answers("0 2048", f -> f.loop(0) + " " + f.loop(11));
        given(0).and(f -> f.external(0, 0, 0)).answers(0, f -> f.loop(0));
    }

    @Sentence(promise = 34, value = "Throws `IndexOutOfBoundsException` if there is no such atom")
    void loop_noSuchAtom() {
        refusesAtoms((f, atom) -> f.loop(atom));
    }

    // ---- promise 35

    @Sentence(promise = 35, value = "Returns the union of all sets that are unfounded in a set.")
    void unfounded_changesWithTheRulesAndExternals() {
        Given external = given(0, 0).and(f -> f.external(0, 0, 0)).and(f -> rule(f, 1, 1));
        external.answers(1, f -> f.unfounded(1));
        external.and(f -> f.unfounded(1)).and(f -> f.assign(0, 2)).answers(0, f -> f.unfounded(1));
        external.and(f -> f.unfounded(1)).and(f -> rule(f, 0)).answers(0, f -> f.unfounded(1));
    }

    @Sentence(promise = 35, value = "- `within`: a set of atoms")
    void unfounded_withinTheEmptyAndTheFullSet_areLetIn() {
        given().answers(0, f -> f.unfounded(0));
        given(1, 1).and(f -> externals(f)).answers("0 4095 2048 1",
                f -> f.unfounded(0) + " " + f.unfounded(4095) + " " + f.unfounded(2048) + " " + f.unfounded(1));
        twelve().answers("0 0", f -> f.unfounded(0) + " " + f.unfounded(4095));
    }

    private static void externals(StableFoundry f) {
        for (int constant = 0; constant < 10; constant++) {
            f.external(0, constant, 0);
        }
        f.external(1, 0, 0);
        f.external(1, 1, 0);
    }

    @Sentence(promise = 35, value = "Returns the union.")
    void unfounded_returnsTheUnion() {
        Given ring = given(0, 0, 0).and(f -> f.external(2, 0, 0)).and(f -> rule(f, 1, 2)).and(f -> rule(f, 0, 1))
                .and(f -> rule(f, 1, 0));
        ring.answers("7 6 1", f -> f.unfounded(7) + " " + f.unfounded(6) + " " + f.unfounded(1));
        ring.and(f -> f.assign(0, 1)).answers("0 6 0", f -> f.unfounded(7) + " " + f.unfounded(6) + " "
                + f.unfounded(1));
    }

    @Sentence(promise = 35, value = "Throws `IllegalArgumentException` if within has a bit for no atom")
    void unfounded_aBitForNoAtom() {
        for (int set : new int[] {4, 5, 7, 4096, 1 << 30, LOW, LOW + 1, -1, HIGH}) {
            two().refuses(ARGUMENT, f -> f.unfounded(set));
        }
        given().refuses(ARGUMENT, f -> f.unfounded(1));
        twelve().answers(ARGUMENT, f -> f.unfounded(4096));
        twelve().answers(ARGUMENT, f -> f.unfounded(4097));
        twelve().answers(ARGUMENT, f -> f.unfounded(LOW));
    }
}
