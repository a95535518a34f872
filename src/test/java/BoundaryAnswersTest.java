/** The boundary sentences of "Answers", and of the promises 21 to 31. */
public final class BoundaryAnswersTest extends Boundaries {
    private static final int[] NO_NUMBERS = {-1, LOW, HIGH};

    public static void main(String[] args) {
        new BoundaryAnswersTest().run();
    }

    /** 12 atoms, each so or not: 4096 answers, each set by its number. */
    private Given twelve() {
        return given(1, 1).and(f -> freeRow(f, 0, 0, 9)).and(f -> freeRow(f, 1, 0, 1));
    }

    /** No answer at all. */
    private Given none() {
        return given(0, 0).and(f -> free(f, 0, 1)).and(StableFoundry::enter);
    }

    /** The sets 1, 2, 5, 6, 9 and 10: one of the atoms 0 and 1, and one of 2 and 3 at most. */
    private Given six() {
        return given(0, 0, 0, 0).and(f -> choose(f, 1, 1, 0, 1)).and(f -> choose(f, 0, 1, 2, 3));
    }

    private Given two() {
        return given(0, 0).and(f -> free(f, 0, 1));
    }

    private static String values(StableFoundry f) {
        return f.value(0, 0) + " " + f.value(0, 1) + " " + f.value(0, 2) + " " + f.value(0, 3);
    }

    // ---- an object's 512 calls

    @Sentence("An object is used for at most 512 calls after it has been made")
    void text_the512thCall_isAnsweredAsTheOnesBefore() {
        given(0).and(f -> {
            f.external(0, 0, 0);
            for (int call = 2; call < 511; call++) {
                told(f, g -> g.assign(0, 3));
            }
            f.assign(0, 1);
        }).answers("1", f -> f.answer(0));
        two().and(f -> {
            for (int call = 6; call < 511; call++) {
                f.answersAnew();
            }
        }).answers(4, StableFoundry::answers);
    }

    @Sentence("The constants: `NONE = -1`: None.")
    void text_none_isMinus1() {
        given().answers(-1, f -> StableFoundry.NONE);
    }

    @Sentence("answers are found that are stable by definition, under assumptions, with externals that come and go;")
    void text_answers_asExternalsComeAndGo() {
        Given lamp = given(0, 0, 0).and(f -> f.external(0, 0, 0)).and(f -> rule(f, 1, 0))
                .and(f -> f.body(1, 0, 0, true)).and(f -> rule(f, 2));
        lamp.answers("4", Boundaries::sets);
        Given on = lamp.and(f -> f.assign(0, 1));
        on.answers("3", Boundaries::sets);
        on.and(f -> f.assign(0, 0)).answers("4", Boundaries::sets);
        Given free = on.and(f -> f.assign(0, 2));
        free.answers("3 4", Boundaries::sets);
        free.answers("1 1 0", f -> f.assuming(2, 4) + " " + f.assuming(4, 2) + " " + f.assuming(6, 0));
    }

    // ---- answers

    @Sentence("A set of possible atoms is told as bits, by their numbers.")
    void text_sets_theAtom0_is1_theAtom11_is2048() {
        twelve().answers("1 2 2048 4095",
                f -> f.answer(1) + " " + f.answer(2) + " " + f.answer(2048) + " " + f.answer(4095));
        twelve().and(f -> fact(f, 1, 1, 0)).answers("2048 2048", f -> f.answer(0) + " " + f.cautious());
        twelve().and(f -> fact(f, 0, 0, 0)).answers("1 1", f -> f.answer(0) + " " + f.cautious());
    }

    @Sentence("Atoms that are not possible are so in no set.")
    void text_notPossible_isSoInNoSet_inANotAndInASum() {
        given(0, 0).and(f -> f.body(1, 0, 0, true)).and(f -> rule(f, 0)).answers("1", Boundaries::sets);
        given(0, 1).and(f -> f.sum(0, 0)).and(f -> f.element(5, 1, Z, 0)).and(f -> rule(f, 0))
                .answers("1", Boundaries::sets);
        given(0, 1).and(f -> f.sum(5, 5)).and(f -> f.element(5, 1, Z, 0)).and(f -> rule(f, 0))
                .answers("0", Boundaries::sets);
    }

    @Sentence("Atoms that are not possible are so in no set.")
    void text_notPossible_untilALaterRuleMakesItPossible() {
        Given not = given(0, 0).and(f -> f.body(1, 0, 0, true)).and(f -> rule(f, 0));
        not.and(f -> rule(f, 1)).answers("2", Boundaries::sets);
        not.and(f -> f.external(1, 0, 0)).and(f -> f.assign(1, 2)).answers("1 2", Boundaries::sets);
        Given sum = given(0, 1).and(f -> f.sum(1, 1)).and(f -> f.element(1, 1, Z, 0)).and(f -> rule(f, 0));
        sum.answers("0", Boundaries::sets);
        sum.and(f -> fact(f, 1, 9, 0)).answers("3", Boundaries::sets);
        sum.and(f -> fact(f, 1, 9, 0)).and(f -> fact(f, 1, 0, 0)).answers("6", Boundaries::sets);
    }

    @Sentence("The body of an instance holds in a set if its atoms are so that have to be, none is that may not be, and the sum holds.")
    void text_body_eachPartIsAsked() {
        Given three = given(0, 0, 0, 0).and(f -> free(f, 0, 1, 2));
        three.and(f -> f.body(0, 0, 0, false)).and(f -> f.body(1, 0, 0, true)).and(f -> f.sum(1, 1))
                .and(f -> f.element(1, 2, 0, 0)).and(f -> rule(f, 3)).answers("0 1 2 3 4 6 7 13", Boundaries::sets);
        three.and(f -> rule(f, 3)).answers("8 9 10 11 12 13 14 15", Boundaries::sets);
    }

    /** The draft with one of 12 atoms in its body, as one that has to be so, or may not. */
    private static void bodyOf(StableFoundry f, int atom, boolean isNot) {
        f.body(atom < 10 ? 0 : 1, atom % 10, 0, isNot);
    }

    @Sentence("The body of an instance holds in a set if its atoms are so that have to be, none is that may not be, and the sum holds.")
    void text_body_eachAtomOf12_hasToBeSo_mayNot_orIsInASum() {
        for (int number = 0; number < 12; number++) {
            int atom = number;
            int bit = 1 << number;
            Given not = twelve().and(f -> bodyOf(f, atom, true)).and(StableFoundry::enter);
            not.answers("2048 2048 " + bit, f -> f.answers() + " " + f.assuming(bit, 0) + " " + f.cautious());
            Given so = twelve().and(f -> bodyOf(f, atom, false)).and(StableFoundry::enter);
            so.answers("2048 2048 " + (4095 - bit), f -> f.answers() + " " + f.assuming(0, bit) + " " + f.brave());
            Given sum = twelve().and(f -> f.sum(1, 1)).and(f -> f.element(1, atom < 10 ? 0 : 1, atom % 10, 0))
                    .and(StableFoundry::enter);
            sum.answers("2048 2048 " + (4095 - bit), f -> f.answers() + " " + f.assuming(0, bit) + " " + f.brave());
        }
    }

    @Sentence("it has no head, no: then it is not satisfied; one of its head atoms is so;")
    void text_satisfies_byEachHeadAtomOf12() {
        for (int number = 0; number < 12; number++) {
            int atom = number;
            int bit = 1 << number;
            twelve().and(f -> fact(f, atom < 10 ? 0 : 1, atom % 10, 0)).answers("2048 " + bit,
                    f -> f.answers() + " " + f.cautious());
        }
    }

    @Sentence("The body of an instance holds in a set if its atoms are so that have to be, none is that may not be, and the sum holds.")
    void text_body_anAtomThatHasToBeSo_andMayNot_neverHolds() {
        two().and(f -> f.body(0, 0, 0, false)).and(f -> f.body(0, 0, 0, true)).and(StableFoundry::enter)
                .answers(4, StableFoundry::answers);
    }

    @Sentence("An external atom is false, as at first, true, or free.")
    void text_external_isFalseAtFirst() {
        Given external = given(0).and(f -> f.external(0, 0, 0));
        external.answers("0", Boundaries::sets);
        external.answers(0, f -> f.assign(0, 0));
        external.and(f -> f.assign(0, 1)).answers("1", Boundaries::sets);
        external.and(f -> f.assign(0, 2)).answers("0 1", Boundaries::sets);
    }

    /** Three atoms, each so or not, and a draft that asks for the third of them. */
    private Given ifTheThirdIsSo() {
        return given(0, 0, 0).and(f -> free(f, 0, 1, 2)).and(f -> f.body(2, 0, 0, false));
    }

    @Sentence("A set satisfies an instance if its body does not hold in it, or: it has no head, no: then it is not satisfied; one of its head atoms is so; it is a choice, and as many of its atoms are so as it tells")
    void text_satisfies_whereTheBodyDoesNotHold_whateverTheHead() {
        ifTheThirdIsSo().and(StableFoundry::enter).answers("0 1 2 3", Boundaries::sets);
        ifTheThirdIsSo().and(f -> f.head(0, 0, 0)).and(f -> rule(f, 1)).answers("0 1 2 3 5 6 7", Boundaries::sets);
        ifTheThirdIsSo().and(f -> choose(f, 2, 2, 0, 1)).answers("0 1 2 3 7", Boundaries::sets);
        ifTheThirdIsSo().and(f -> choose(f, 1, 1, 0, 1)).answers("0 1 2 3 5 6", Boundaries::sets);
        ifTheThirdIsSo().and(f -> weakOf(f, 1, 0)).answers("0 1 2 3 4 5 6 7", Boundaries::sets);
    }

    @Sentence("it has no head, no: then it is not satisfied; one of its head atoms is so;")
    void text_satisfies_noHead_orOneOfItsAtoms() {
        none().answers("", Boundaries::sets);
        two().and(f -> ban(f, 0, 1)).answers("0 1 2", Boundaries::sets);
        two().and(f -> f.head(0, 0, 0)).and(f -> rule(f, 1)).answers("1 2 3", Boundaries::sets);
    }

    @Sentence("it is a choice, and as many of its atoms are so as it tells (an atom that is told twice counts once);")
    void text_satisfies_aChoice_anAtomToldTwice_countsOnce() {
        given(0, 0).and(f -> choose(f, 2, 2, 0, 0)).answers("", Boundaries::sets);
        given(0, 0).and(f -> choose(f, 1, 1, 0, 0)).answers("1", Boundaries::sets);
        given(0, 0).and(f -> choose(f, 2, 2, 0, 0, 1)).answers("3", Boundaries::sets);
        given(0, 0).and(f -> choose(f, 0, 1, 0, 0, 0)).answers("0 1", Boundaries::sets);
        given(0, 0).and(f -> choose(f, 3, 3, 0, 1, 1)).answers("", Boundaries::sets);
        Given same = given(1).and(f -> f.head(0, -1, 0)).and(f -> f.head(0, -2, 0)).and(f -> f.choice(1, 1));
        same.and(f -> f.interval(0, 4, 4)).and(f -> f.interval(1, 4, 4)).and(StableFoundry::enter)
                .answers("1", Boundaries::sets);
    }

    @Sentence("it is a choice, and as many of its atoms are so as it tells (an atom that is told twice counts once);")
    void text_satisfies_aChoice_whoseAtomsAreSoByOthers_counts() {
        Given facts = given(0, 0, 0).and(f -> rule(f, 0)).and(f -> rule(f, 1));
        facts.and(f -> choose(f, 0, 1, 0, 1)).answers("", Boundaries::sets);
        facts.and(f -> choose(f, 2, 2, 0, 1, 2)).answers("3", Boundaries::sets);
        facts.and(f -> choose(f, 3, 3, 0, 1, 2)).answers("7", Boundaries::sets);
    }

    @Sentence("it is a weak cost, or a difference.")
    void text_satisfies_aWeakCostOrADifference_always() {
        two().and(f -> weakOf(f, HIGH, 2)).and(f -> weakOf(f, LOW, 0, 0)).answers("0 1 2 3", Boundaries::sets);
        two().and(f -> differ(f, 0, 1, -100)).answers("0 1 2 3", Boundaries::sets);
    }

    @Sentence("A set satisfies a true external if it has it; a false or free one in any case.")
    void text_satisfies_aTrueExternal_aFalseAndAFreeOne() {
        Given derived = given(0, 0).and(f -> f.external(0, 0, 0)).and(f -> choose(f, 0, 1, 0));
        derived.answers("0 1", Boundaries::sets);
        derived.and(f -> f.assign(0, 2)).answers("0 1", Boundaries::sets);
        derived.and(f -> f.assign(0, 1)).answers("1", Boundaries::sets);
        derived.and(f -> f.assign(0, 1)).and(f -> ban(f, 0)).answers("", Boundaries::sets);
    }

    @Sentence("To reduce by a set: the instances whose bodies hold in it are left; of a choice only this: each of its atoms that is in the set is to be so as a head of its own; of externals: true ones, and free ones that are in the set, are to be so.")
    void text_reduce_aChoiceAndAFreeExternal_keepTheirAtoms() {
        given(0, 0).and(f -> choose(f, 0, 2, 0, 1)).and(f -> f.head(0, 0, 0)).and(f -> rule(f, 1))
                .answers("1 2 3", Boundaries::sets);
        Given free = given(0, 0).and(f -> f.external(0, 0, 0)).and(f -> rule(f, 1, 0));
        free.and(f -> f.assign(0, 2)).answers("0 3", Boundaries::sets);
        free.answers("0", Boundaries::sets);
        Given choiceByItself = given(0, 0).and(f -> f.body(1, 0, 0, false)).and(f -> choose(f, 0, 1, 0))
                .and(f -> rule(f, 1, 0));
        choiceByItself.answers("0", Boundaries::sets);
    }

    @Sentence("A set is stable if it satisfies all instances and externals, and no smaller set within it satisfies what is left of it by reducing by it (the bodies asked in the smaller one).")
    void text_stable_leastOfADisjunction_andNothingByItself() {
        given(0, 0, 0).and(f -> f.head(0, 0, 0)).and(f -> f.head(1, 0, 0)).and(f -> rule(f, 2))
                .answers("1 2 4", Boundaries::sets);
        Given ring = given(0, 0).and(f -> choose(f, 0, 0, 0)).and(f -> rule(f, 1, 0)).and(f -> rule(f, 0, 1));
        ring.answers("0", Boundaries::sets);
        Given both = given(0, 0).and(f -> f.head(0, 0, 0)).and(f -> rule(f, 1)).and(f -> rule(f, 0, 1))
                .and(f -> rule(f, 1, 0));
        both.answers("3", Boundaries::sets);
        given(0, 0).and(f -> f.body(0, 0, 0, true)).and(f -> rule(f, 0)).answers("", Boundaries::sets);
    }

    @Sentence("A set is stable if it satisfies all instances and externals, and no smaller set within it satisfies what is left of it by reducing by it (the bodies asked in the smaller one).")
    void text_stable_notsAndSums_areAskedInTheSmallerSet() {
        given(0).and(f -> f.sum(0, 1)).and(f -> f.element(1, 0, 0, 0)).and(f -> rule(f, 0))
                .answers("1", Boundaries::sets);
        given(0).and(f -> f.sum(1, 1)).and(f -> f.element(1, 0, 0, 0)).and(f -> rule(f, 0))
                .answers("0", Boundaries::sets);
        Given sum = given(0, 0).and(f -> f.sum(0, 0)).and(f -> f.element(1, 1, 0, 0)).and(f -> f.element(-1, 0, 0, 0))
                .and(f -> rule(f, 0));
        sum.answers("", Boundaries::sets);
        sum.and(f -> rule(f, 1, 0)).answers("", Boundaries::sets);
        sum.and(f -> rule(f, 1, 0)).and(f -> rule(f, 0, 1)).answers("3", Boundaries::sets);
        given(0, 0).and(f -> f.body(0, 0, 0, true)).and(f -> f.head(0, 0, 0)).and(f -> rule(f, 1))
                .answers("2", Boundaries::sets);
    }

    @Sentence("It is an answer if, besides, the differences of instances whose bodies hold in it can hold together.")
    void text_answer_differencesOfBodiesThatHold() {
        Given differences = two().and(f -> differ(f, 0, 1, -1, 0)).and(f -> differ(f, 1, 0, 0, 1));
        differences.answers("0 1 2", Boundaries::sets);
        differences.and(f -> ban(f, 0)).answers("0 2", Boundaries::sets);
    }

    @Sentence("Differences are of the numbers 0 to 3: the number x less the number y is at most c.")
    void text_differences_ofEachPairOfNumbers() {
        for (int x = 0; x < 4; x++) {
            for (int y = 0; y < 4; y++) {
                int one = x;
                int other = y;
                if (x != y) {
                    given().and(f -> differ(f, one, other, -5))
                            .answers("-5 0", f -> f.value(0, one) + " " + f.value(0, other));
                }
            }
        }
    }

    /** Round all of so many numbers in a ring, which adds up to this much. */
    private Given ring(int numbers, int total) {
        return given().and(f -> {
            for (int number = 0; number < numbers; number++) {
                differ(f, number, (number + 1) % numbers, number == 0 ? total + 10 * (numbers - 1) : -10);
            }
        });
    }

    @Sentence("They can hold together, if there are whole numbers for which all do.")
    void text_differences_aRingOf0_canHold_aRingBelow0_not() {
        for (int count = 2; count <= 4; count++) {
            ring(count, 0).answers(1, StableFoundry::answers);
            ring(count, 1).answers(1, StableFoundry::answers);
            ring(count, -1).answers(0, StableFoundry::answers);
            ring(count, -1).answers(0, StableFoundry::answersAnew);
        }
        given().and(f -> differ(f, 2, 3, 0)).and(f -> differ(f, 2, 3, -100)).and(f -> differ(f, 3, 2, 99))
                .answers(0, StableFoundry::answers);
    }

    @Sentence("In an answer each number is told as the greatest one that is at most 0 for which they do (for all together).")
    void text_numbers_areAtMost0_andNoLessThanTheyHaveTo() {
        given().answers("0 0 0 0", BoundaryAnswersTest::values);
        given().and(f -> differ(f, 0, 1, 100)).answers("0 0 0 0", BoundaryAnswersTest::values);
        given().and(f -> differ(f, 0, 1, -1)).answers("-1 0 0 0", BoundaryAnswersTest::values);
        ring(4, 0).answers("0 -30 -20 -10", BoundaryAnswersTest::values);
        given().and(f -> differ(f, 0, 1, -3)).and(f -> differ(f, 0, 1, -7)).and(f -> differ(f, 0, 2, -5))
                .answers("-7 0 0 0", BoundaryAnswersTest::values);
    }

    @Sentence("In an answer each number is told as the greatest one that is at most 0 for which they do (for all together).")
    void text_numbers_oneAfterTheOther_to300Below0_inWhateverOrder() {
        Given falling = given().and(f -> differ(f, 2, 3, -100)).and(f -> differ(f, 1, 2, -100));
        falling.and(f -> differ(f, 0, 1, -100)).answers("-300 -200 -100 0", BoundaryAnswersTest::values);
        Given rising = given().and(f -> differ(f, 0, 1, -100)).and(f -> differ(f, 1, 2, -100));
        rising.and(f -> differ(f, 2, 3, -100)).answers("-300 -200 -100 0", BoundaryAnswersTest::values);
    }

    @Sentence("Answers are numbered from 0, by rising sets as numbers.")
    void text_answers_risingFrom0() {
        six().answers("1 2 5 6 9 10", Boundaries::sets);
        twelve().answers("0 1 2047 2048 4095", f -> f.answer(0) + " " + f.answer(1) + " " + f.answer(2047) + " "
                + f.answer(2048) + " " + f.answer(4095));
    }

    @Sentence("The cost of an answer at a level is the sum of the weights of all weak costs of that level whose bodies hold in it.")
    void text_cost_isOfBodiesThatHold_ofThatLevelAlone() {
        Given costs = two().and(f -> weakOf(f, 5, 0)).and(f -> weakOf(f, 7, 0, 0)).and(f -> weakOf(f, 11, 1, 0))
                .and(f -> weakOf(f, -13, 0, 0, 1));
        costs.answers("5 12 5 -1", f -> f.cost(0, 0) + " " + f.cost(1, 0) + " " + f.cost(2, 0) + " " + f.cost(3, 0));
        costs.answers("0 11 0 11", f -> f.cost(0, 1) + " " + f.cost(1, 1) + " " + f.cost(2, 1) + " " + f.cost(3, 1));
    }

    @Sentence("The best answers are those with the least cost at the level 2, of these at 1, of these at 0.")
    void text_best_level2_thenLevel1_thenLevel0() {
        six().answers("222222", Boundaries::ranks);
        Given level0 = six().and(f -> weakOf(f, 9, 0, 0));
        level0.answers("020202", Boundaries::ranks);
        Given level1 = level0.and(f -> weakOf(f, -1, 1, 2));
        level1.answers("000200", Boundaries::ranks);
        Given level2 = level1.and(f -> weakOf(f, 1, 2, 2)).and(f -> weakOf(f, 1, 2, 1));
        level2.answers("200020", Boundaries::ranks);
    }

    @Sentence("The best answers are those with the least cost at the level 2, of these at 1, of these at 0.")
    void text_best_beyondInts() {
        Given least = two().and(f -> weakOf(f, LOW, 2, 0)).and(f -> weakOf(f, LOW, 2, 0));
        least.answers("0202", Boundaries::ranks);
        Given greatest = two().and(f -> weakOf(f, HIGH, 2, 0)).and(f -> weakOf(f, HIGH, 2, 0));
        greatest.answers("2020", Boundaries::ranks);
        greatest.and(f -> weakOf(f, LOW, 2, 1)).answers("0020", Boundaries::ranks);
    }

    @Sentence("A preference is of an atom to another one.")
    void text_preference_ofTheFirstToTheSecond() {
        two().and(f -> f.prefer(0, 1)).answers("2212", Boundaries::ranks);
        two().and(f -> f.prefer(1, 0)).answers("2122", Boundaries::ranks);
    }

    @Sentence("An answer is preferred to another one if there is a preference whose first atom the one alone has, and whose second atom the other alone has, and none the other way round.")
    void text_preferred_theOneAlone_theOtherAlone_andNoneBack() {
        two().and(f -> f.prefer(0, 1)).answers("2212", Boundaries::ranks);
        two().and(f -> f.prefer(0, 1)).and(f -> f.prefer(1, 0)).answers("2222", Boundaries::ranks);
        two().and(f -> rule(f, 1)).and(f -> f.prefer(0, 1)).answers("22", Boundaries::ranks);
        two().and(f -> rule(f, 0)).and(f -> f.prefer(0, 1)).answers("22", Boundaries::ranks);
        six().and(f -> f.prefer(0, 1)).and(f -> f.prefer(3, 2)).answers("211121", Boundaries::ranks);
    }

    @Sentence("An answer is chosen if it is a best one, and no best one is preferred to it.")
    void text_chosen_onlyBestOnesPrefer() {
        six().and(f -> f.prefer(0, 1)).answers("212121", Boundaries::ranks);
        six().and(f -> f.prefer(0, 1)).and(f -> weakOf(f, 1, 0, 0)).answers("020202", Boundaries::ranks);
        six().and(f -> f.prefer(0, 1)).and(f -> weakOf(f, 1, 0, 3)).answers("212100", Boundaries::ranks);
    }

    // ---- promises 21 and 22

    @Sentence(promise = 21, value = "Returns how many answers there are.")
    void answers_0_1_and4096() {
        none().answers(0, StableFoundry::answers);
        given().answers(1, StableFoundry::answers);
        given(0).and(f -> rule(f, 0)).answers(1, StableFoundry::answers);
        twelve().answers(4096, StableFoundry::answers);
        twelve().and(StableFoundry::enter).answers(0, StableFoundry::answers);
    }

    @Sentence(promise = 21, value = "Returns how many answers there are.")
    void answers_afterEachCallThatChangesThem() {
        given(0).and(StableFoundry::answers).and(f -> free(f, 0)).answers(2, StableFoundry::answers);
        given(0).and(StableFoundry::answers).and(f -> f.external(0, 0, 0)).answers(1, StableFoundry::answers);
        given(0).and(f -> f.external(0, 0, 0)).and(StableFoundry::answers).and(f -> f.assign(0, 2))
                .answers(2, StableFoundry::answers);
        two().and(StableFoundry::answers).and(f -> ban(f, 0)).answers(2, StableFoundry::answers);
    }

    @Sentence(promise = 21, value = "Returns how many answers there are.")
    void answers_from4096_to0_leavesNothingBehind() {
        twelve().and(StableFoundry::answers).and(StableFoundry::enter).answers("0 0 4095 0 0 0",
                f -> f.answers() + " " + f.brave() + " " + f.cautious() + " " + f.assuming(0, 0) + " "
                        + f.projected(4095) + " " + f.conflict(255, 0));
        twelve().and(StableFoundry::answers).and(f -> f.body(1, 1, 0, false)).and(StableFoundry::enter)
                .answers("2048 2047 2048", f -> f.answers() + " " + f.answer(2047) + " " + f.projected(4095));
    }

    @Sentence(promise = 22, value = "Returns the same, found by going through all sets, and for each through all smaller ones within it.")
    void answersAnew_0_1_and4096() {
        none().answers(0, StableFoundry::answersAnew);
        given().answers(1, StableFoundry::answersAnew);
        twelve().answers(4096, StableFoundry::answersAnew);
        twelve().and(f -> fact(f, 0, 0, 0)).answers("2048 2048 1",
                f -> f.answersAnew() + " " + f.answers() + " " + f.answer(0));
    }

    @Sentence(promise = 22, value = "Returns the same, found by going through all sets, and for each through all smaller ones within it.")
    void answersAnew_changesNothing() {
        six().and(StableFoundry::answersAnew).answers("1 2 5 6 9 10", Boundaries::sets);
        Given chosen = six().and(f -> weakOf(f, 1, 0, 0)).and(f -> f.prefer(2, 3));
        chosen.and(Boundaries::ranks).and(StableFoundry::answersAnew).answers("020201", Boundaries::ranks);
    }

    // ---- promise 23

    @Sentence(promise = 23, value = "Returns an answer.")
    void answer_ofOneAnswer() {
        given(0, 0).and(f -> rule(f, 0)).and(f -> rule(f, 1)).answers(3, f -> f.answer(0));
    }

    @Sentence(promise = 23, value = "- `answer`: 0 for the first one")
    void answer_theFirstAndTheLast_areLetIn() {
        six().answers("1 10", f -> f.answer(0) + " " + f.answer(5));
        given().answers(0, f -> f.answer(0));
    }

    @Sentence(promise = 23, value = "Returns the set.")
    void answer_returnsTheSet_0_to_4095() {
        twelve().answers("0 4095", f -> f.answer(0) + " " + f.answer(4095));
    }

    /** What takes an answer refuses those that there are not. */
    private void refusesAnswers(AtomCall call) {
        for (int answer : NO_NUMBERS) {
            six().refuses(INDEX, f -> call.on(f, answer, 0, 0));
        }
        six().refuses(INDEX, f -> call.on(f, 6, 0, 0));
        none().refuses(INDEX, f -> call.on(f, 0, 0, 0));
        none().refuses(INDEX, f -> call.on(f, -1, 0, 0));
        twelve().answers(INDEX, f -> call.on(f, 4096, 0, 0));
        twelve().and(f -> f.answers()).answers(INDEX, f -> call.on(f, 4096, 0, 0));
    }

    @Sentence(promise = 23, value = "Throws `IndexOutOfBoundsException` if there is no such answer")
    void answer_noSuchAnswer() {
        refusesAnswers((f, answer, first, second) -> f.answer(answer));
        given().refuses(INDEX, f -> f.answer(1));
    }

    // ---- promise 24

    private interface SetCall {
        Object on(StableFoundry foundry, int set);
    }

    /** A set may have the bits of the atoms, and no other. */
    private void refusesBitsForNoAtom(SetCall call) {
        for (int set : new int[] {4, 5, 7, 8, 4096, 1 << 30, LOW, LOW + 1, -1, HIGH}) {
            two().refuses(ARGUMENT, f -> call.on(f, set));
        }
        given(0).refuses(ARGUMENT, f -> call.on(f, 1));
        none().refuses(ARGUMENT, f -> call.on(f, 4));
        twelve().answers(ARGUMENT, f -> call.on(f, 4096));
        twelve().answers(ARGUMENT, f -> call.on(f, 4097));
        twelve().answers(ARGUMENT, f -> call.on(f, LOW));
    }

    @Sentence(promise = 24, value = "Returns how many answers there are in which some atoms are so, and others are not.")
    void assuming_nothing_isAll_anAtomBothWays_isNone() {
        six().answers(6, f -> f.assuming(0, 0));
        six().answers(0, f -> f.assuming(1, 1));
        six().answers(0, f -> f.assuming(15, 15));
        none().answers(0, f -> f.assuming(0, 0));
    }

    @Sentence(promise = 24, value = "- `are`: a set of atoms")
    void assuming_are_theEmptyAndTheFullSet_areLetIn() {
        twelve().answers(4096, f -> f.assuming(0, 0));
        twelve().answers(1, f -> f.assuming(4095, 0));
        twelve().answers(2048, f -> f.assuming(2048, 0));
        given().answers(1, f -> f.assuming(0, 0));
    }

    @Sentence(promise = 24, value = "- `areNot`: a set of atoms")
    void assuming_areNot_theEmptyAndTheFullSet_areLetIn() {
        twelve().answers(1, f -> f.assuming(0, 4095));
        twelve().answers(2048, f -> f.assuming(0, 2048));
        twelve().answers(1024, f -> f.assuming(1, 2048));
    }

    @Sentence(promise = 24, value = "Returns how many.")
    void assuming_returnsHowMany() {
        six().answers("3 2 1 0", f -> f.assuming(1, 0) + " " + f.assuming(1, 4) + " " + f.assuming(1, 12) + " "
                + f.assuming(3, 0));
    }

    @Sentence(promise = 24, value = "Throws `IllegalArgumentException` if are or areNot has a bit for no atom")
    void assuming_aBitForNoAtom_inEither() {
        refusesBitsForNoAtom((f, set) -> f.assuming(set, 0));
        refusesBitsForNoAtom((f, set) -> f.assuming(0, set));
        refusesBitsForNoAtom((f, set) -> f.assuming(set, set));
    }

    // ---- promise 25

    @Sentence(promise = 25, value = "Returns the least conflict of assumptions: as few of them as possible that no answer meets all;")
    void conflict_asFewAsPossible() {
        six().answers(3, f -> f.conflict(7, 0));
        six().answers(12, f -> f.conflict(13, 2));
        six().and(f -> ban(f, 0)).answers(1, f -> f.conflict(13, 0));
        six().answers(4096 * 3, f -> f.conflict(4, 3));
    }

    @Sentence(promise = 25, value = "of several of as many that for which what is returned is least.")
    void conflict_ofSeveral_theLeast() {
        six().answers(3, f -> f.conflict(15, 0));
        six().answers(3, f -> f.conflict(15, 15));
        six().answers(12, f -> f.conflict(14, 3));
        two().answers(1 + 4096, f -> f.conflict(3, 3));
    }

    @Sentence(promise = 25, value = "of several of as many that for which what is returned is least.")
    void conflict_ofSeveralThatAreAlone_theLeast_ofAreAheadOfAreNot() {
        Given one = two().and(f -> rule(f, 0)).and(f -> ban(f, 1));
        one.answers(2, f -> f.conflict(3, 3));
        one.answers(4096, f -> f.conflict(1, 3));
        Given neither = two().and(f -> ban(f, 0)).and(f -> ban(f, 1));
        neither.answers(1, f -> f.conflict(3, 0));
        Given both = two().and(f -> rule(f, 0)).and(f -> rule(f, 1));
        both.answers(4096, f -> f.conflict(0, 3));
    }

    @Sentence(promise = 25, value = "- `are`: a set of atoms")
    void conflict_are_theFirstAndTheLastAtom_areLetIn() {
        twelve().answers(-1, f -> f.conflict(1 + 2048, 0));
        twelve().and(f -> f.body(1, 1, 0, false)).and(StableFoundry::enter).answers(2048, f -> f.conflict(1 + 2048, 0));
        given().answers(-1, f -> f.conflict(0, 0));
    }

    @Sentence(promise = 25, value = "- `areNot`: a set of atoms; both have 8 at most together")
    void conflict_8Together_areLetIn() {
        twelve().answers(-1, f -> f.conflict(255, 0));
        twelve().answers(-1, f -> f.conflict(4080, 0));
        twelve().answers(-1, f -> f.conflict(0, 255 << 4));
        twelve().answers(-1, f -> f.conflict(15, 15 << 8));
        twelve().answers(-1, f -> f.conflict(1, 127 << 5));
        twelve().answers(1 + 4096, f -> f.conflict(15, 15));
    }

    @Sentence(promise = 25, value = "Returns those of are, and 4096 times those of areNot; -1 if an answer meets all, 0 if there is no answer at all.")
    void conflict_minus1_ifAnAnswerMeetsAll() {
        six().answers(-1, f -> f.conflict(5, 10));
        six().answers(-1, f -> f.conflict(0, 0));
        given().answers(-1, f -> f.conflict(0, 0));
    }

    @Sentence(promise = 25, value = "Returns those of are, and 4096 times those of areNot; -1 if an answer meets all, 0 if there is no answer at all.")
    void conflict_0_ifThereIsNoAnswerAtAll() {
        none().answers(0, f -> f.conflict(0, 0));
        none().answers(0, f -> f.conflict(3, 3));
        given().and(StableFoundry::enter).answers(0, f -> f.conflict(0, 0));
        twelve().and(StableFoundry::enter).answers(0, f -> f.conflict(255, 0));
    }

    @Sentence(promise = 25, value = "Returns those of are, and 4096 times those of areNot; -1 if an answer meets all, 0 if there is no answer at all.")
    void conflict_4096TimesThoseOfAreNot_toTheAtom11() {
        twelve().and(f -> fact(f, 1, 1, 0)).answers(4096 * 2048, f -> f.conflict(0, 2048));
        twelve().and(f -> fact(f, 1, 1, 0)).answers(4096 * 2048, f -> f.conflict(2048, 2048));
        twelve().and(f -> fact(f, 0, 0, 0)).answers(4096, f -> f.conflict(2048, 2049));
    }

    @Sentence(promise = 25, value = "Throws `IllegalArgumentException` if are or areNot has a bit for no atom, or they have more than 8")
    void conflict_aBitForNoAtom_inEither() {
        refusesBitsForNoAtom((f, set) -> f.conflict(set, 0));
        refusesBitsForNoAtom((f, set) -> f.conflict(0, set));
        refusesBitsForNoAtom((f, set) -> f.conflict(set, set));
    }

    @Sentence(promise = 25, value = "Throws `IllegalArgumentException` if are or areNot has a bit for no atom, or they have more than 8")
    void conflict_9Together_areRefused() {
        Given nine = given(1).and(f -> freeRow(f, 0, 0, 8)).and(f -> fact(f, 0, 0, 0));
        nine.refuses(ARGUMENT, f -> f.conflict(511, 0));
        nine.refuses(ARGUMENT, f -> f.conflict(0, 511));
        nine.refuses(ARGUMENT, f -> f.conflict(31, 15 << 5));
        nine.refuses(ARGUMENT, f -> f.conflict(15, 31 << 4));
        nine.refuses(ARGUMENT, f -> f.conflict(255, 256));
        nine.refuses(ARGUMENT, f -> f.conflict(1, 255));
        nine.refuses(ARGUMENT, f -> f.conflict(511, 511));
        nine.and(StableFoundry::enter).refuses(ARGUMENT, f -> f.conflict(511, 0));
        twelve().answers(ARGUMENT, f -> f.conflict(4095, 0));
        twelve().answers(ARGUMENT, f -> f.conflict(4095, 4095));
    }

    // ---- promise 26

    @Sentence(promise = 26, value = "Returns the cost of an answer.")
    void cost_withoutWeakCosts_is0() {
        given().answers("0 0 0", f -> f.cost(0, 0) + " " + f.cost(0, 1) + " " + f.cost(0, 2));
    }

    @Sentence(promise = 26, value = "- `answer`: 0 for the first one")
    void cost_theFirstAndTheLastAnswer_areLetIn() {
        Given costs = six().and(f -> weakOf(f, 5, 0, 0)).and(f -> weakOf(f, 7, 0, 3));
        costs.answers("5 7", f -> f.cost(0, 0) + " " + f.cost(5, 0));
    }

    @Sentence(promise = 26, value = "- `level`: 0 to 2")
    void cost_level_0_to_2_areLetIn() {
        Given costs = given().and(f -> weakOf(f, 5, 0)).and(f -> weakOf(f, 6, 1)).and(f -> weakOf(f, 7, 2));
        costs.answers("5 6 7", f -> f.cost(0, 0) + " " + f.cost(0, 1) + " " + f.cost(0, 2));
    }

    @Sentence(promise = 26, value = "Returns the cost.")
    void cost_of60Instances_beyondInts() {
        Given sixty = given().and(f -> draftTimes(f, 6, 10));
        sixty.and(f -> f.weak(HIGH, 2)).and(StableFoundry::enter).answers(60L * HIGH, f -> f.cost(0, 2));
        sixty.and(f -> f.weak(LOW, 0)).and(StableFoundry::enter).answers(60L * LOW, f -> f.cost(0, 0));
        given().and(f -> weakOf(f, LOW, 1)).and(f -> weakOf(f, LOW, 1)).answers(2L * LOW, f -> f.cost(0, 1));
    }

    @Sentence(promise = 26, value = "Throws `IndexOutOfBoundsException` if there is no such answer or level")
    void cost_noSuchAnswer() {
        refusesAnswers((f, answer, first, second) -> f.cost(answer, 0));
    }

    @Sentence(promise = 26, value = "Throws `IndexOutOfBoundsException` if there is no such answer or level")
    void cost_noSuchLevel() {
        for (int level : new int[] {-1, 3, LOW, HIGH}) {
            six().refuses(INDEX, f -> f.cost(0, level));
            six().refuses(INDEX, f -> f.cost(6, level));
        }
    }

    // ---- promise 27

    @Sentence(promise = 27, value = "Returns how good an answer is.")
    void rank_ofOneAnswer_isChosen() {
        given().answers(2, f -> f.rank(0));
        given(0).and(f -> rule(f, 0)).and(f -> weakOf(f, HIGH, 2, 0)).answers(2, f -> f.rank(0));
    }

    @Sentence(promise = 27, value = "- `answer`: 0 for the first one")
    void rank_theFirstAndTheLastAnswer_areLetIn() {
        six().and(f -> weakOf(f, 1, 0, 0)).answers("0 2", f -> f.rank(0) + " " + f.rank(5));
        twelve().and(f -> weakOf(f, 1, 0)).answers("2 2", f -> f.rank(0) + " " + f.rank(4095));
    }

    @Sentence(promise = 27, value = "Returns 2 if it is chosen, 1 if it is a best one otherwise, 0 if it is none.")
    void rank_returns2_1_0() {
        Given ranked = six().and(f -> weakOf(f, 1, 0, 3)).and(f -> f.prefer(0, 1));
        ranked.answers("212100", Boundaries::ranks);
    }

    @Sentence(promise = 27, value = "Returns 2 if it is chosen, 1 if it is a best one otherwise, 0 if it is none.")
    void rank_afterRulesThatComeLater_isOfTheAnswersAsTheyAreThen() {
        Given ranked = two().and(f -> weakOf(f, 1, 0, 0)).and(Boundaries::ranks);
        ranked.answers("2020", Boundaries::ranks);
        ranked.and(f -> weakOf(f, -2, 0, 0)).answers("0202", Boundaries::ranks);
        ranked.and(f -> rule(f, 0)).answers("22", Boundaries::ranks);
        ranked.and(f -> f.external(0, 0, 0)).and(f -> f.assign(0, 1)).answers("22", Boundaries::ranks);
        ranked.and(f -> weakOf(f, 1, 2, 1)).answers("2000", Boundaries::ranks);
    }

    @Sentence(promise = 27, value = "Throws `IndexOutOfBoundsException` if there is no such answer")
    void rank_noSuchAnswer() {
        refusesAnswers((f, answer, first, second) -> f.rank(answer));
    }

    // ---- promise 28

    @Sentence(promise = 28, value = "Returns how many different sets are left of the answers, if some atoms alone are looked at.")
    void projected_noAtomShown_isOneSet_noAnswer_isNone() {
        six().answers(1, f -> f.projected(0));
        none().answers(0, f -> f.projected(0));
        none().answers(0, f -> f.projected(3));
        given().answers(1, f -> f.projected(0));
    }

    @Sentence(promise = 28, value = "- `shown`: a set of atoms")
    void projected_theEmptyAndTheFullSet_areLetIn() {
        twelve().answers("1 4096 2 2 64", f -> f.projected(0) + " " + f.projected(4095) + " " + f.projected(1) + " "
                + f.projected(2048) + " " + f.projected(4032));
    }

    @Sentence(promise = 28, value = "Returns how many.")
    void projected_returnsHowMany() {
        six().answers("6 2 3 4", f -> f.projected(15) + " " + f.projected(3) + " " + f.projected(12) + " "
                + f.projected(9));
        six().answers("6 6", f -> f.projected(15) + " " + f.projected(15));
    }

    @Sentence(promise = 28, value = "Throws `IllegalArgumentException` if shown has a bit for no atom")
    void projected_aBitForNoAtom() {
        refusesBitsForNoAtom((f, set) -> f.projected(set));
    }

    // ---- promises 29 and 30

    @Sentence(promise = 29, value = "Returns the atoms that are so in some answer.")
    void brave_ofNoAnswer_isNothing_of4096_isAll() {
        none().answers(0, StableFoundry::brave);
        given().answers(0, StableFoundry::brave);
        twelve().answers(4095, StableFoundry::brave);
        twelve().and(f -> f.body(1, 1, 0, false)).and(StableFoundry::enter).answers(2047, StableFoundry::brave);
        six().answers(15, StableFoundry::brave);
    }

    @Sentence(promise = 30, value = "Returns the atoms that are so in all answers; all atoms if there is none.")
    void cautious_ofNoAnswer_isAllAtoms() {
        none().answers(3, StableFoundry::cautious);
        given().and(StableFoundry::enter).answers(0, StableFoundry::cautious);
        twelve().and(StableFoundry::enter).answers(4095, StableFoundry::cautious);
    }

    @Sentence(promise = 30, value = "Returns the atoms that are so in all answers; all atoms if there is none.")
    void cautious_ofOneAnswer_isTheSet_of4096_isNothing() {
        given(0, 0).and(f -> rule(f, 0)).and(f -> free(f, 1)).and(f -> ban(f, 1)).answers(1, StableFoundry::cautious);
        given().answers(0, StableFoundry::cautious);
        twelve().answers(0, StableFoundry::cautious);
        two().and(f -> rule(f, 1)).answers(2, StableFoundry::cautious);
    }

    // ---- promise 31

    @Sentence(promise = 31, value = "Returns a number of an answer.")
    void value_isOfTheDifferencesOfThatAnswer() {
        Given differences = two().and(f -> differ(f, 0, 1, -3, 0)).and(f -> differ(f, 1, 2, -4, 1));
        differences.answers("0 -3 0 -7", f -> f.value(0, 0) + " " + f.value(1, 0) + " " + f.value(2, 0) + " "
                + f.value(3, 0));
        differences.answers("-7 0 -3", f -> f.value(3, 0) + " " + f.value(0, 0) + " " + f.value(1, 0));
    }

    @Sentence(promise = 31, value = "- `answer`: 0 for the first one")
    void value_theFirstAndTheLastAnswer_areLetIn() {
        Given differences = six().and(f -> differ(f, 3, 2, -9, 3));
        differences.answers("0 -9", f -> f.value(0, 3) + " " + f.value(5, 3));
    }

    @Sentence(promise = 31, value = "- `number`: 0 to 3")
    void value_number_0_to_3_areLetIn() {
        ring(4, 0).answers("0 -30 -20 -10", BoundaryAnswersTest::values);
    }

    @Sentence(promise = 31, value = "Returns the number, as told above.")
    void value_returns0_to_300Below() {
        Given three = given().and(f -> differ(f, 0, 1, -100)).and(f -> differ(f, 1, 2, -100));
        three.answers("-200 -100 0 0", BoundaryAnswersTest::values);
        three.and(f -> differ(f, 2, 3, -100)).answers(-300, f -> f.value(0, 0));
        three.and(f -> differ(f, 2, 3, 100)).answers(-200, f -> f.value(0, 0));
    }

    @Sentence(promise = 31, value = "Throws `IndexOutOfBoundsException` if there is no such answer or number")
    void value_noSuchAnswer() {
        refusesAnswers((f, answer, first, second) -> f.value(answer, 0));
        ring(4, -1).refuses(INDEX, f -> f.value(0, 0));
    }

    @Sentence(promise = 31, value = "Throws `IndexOutOfBoundsException` if there is no such answer or number")
    void value_noSuchNumber() {
        for (int number : new int[] {-1, 4, LOW, HIGH}) {
            six().refuses(INDEX, f -> f.value(0, number));
            six().refuses(INDEX, f -> f.value(6, number));
        }
    }
}
