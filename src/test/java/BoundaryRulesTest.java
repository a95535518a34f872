/** The boundary sentences of the promises 1 to 13: a new object, and the calls that make rules. */
public final class BoundaryRulesTest extends Boundaries {
    private static final int[] TERMS = {0, 1, 2, 3, 4, 5, 6, 7, 8, 9, -1, -2, -3, -4, 20, 21, 22, 23};
    private static final int[] NO_TERMS = {-6, 10, 19, 24, LOW, HIGH};
    private static final int[] NO_PLACE_TERMS = {-1, 1, 9, 20, Z, LOW, HIGH};
    private static final AtomCall HEAD = (f, predicate, first, second) -> f.head(predicate, first, second);
    private static final AtomCall BODY = (f, predicate, first, second) -> f.body(predicate, first, second, false);
    private static final AtomCall NOT = (f, predicate, first, second) -> f.body(predicate, first, second, true);
    private static final AtomCall ELEMENT = (f, predicate, first, second) -> f.element(1, predicate, first, second);

    public static void main(String[] args) {
        new BoundaryRulesTest().run();
    }

    // ---- what head, body and element have in common: given are predicates of 0, 1 and 2 places

    private static void letsInPredicates(Given given, AtomCall call) {
        for (int predicate = 0; predicate < 3; predicate++) {
            int number = predicate;
            given.answers(1, f -> call.on(f, number, 0, 0));
        }
    }

    private static void refusesPredicates(Given given, AtomCall call) {
        for (int predicate : new int[] {-1, 3, 6, LOW, HIGH}) {
            given.refuses(INDEX, f -> call.on(f, predicate, 0, 0));
        }
    }

    private static void letsInFirst(Given given, AtomCall call, int term) {
        given.answers(1, f -> call.on(f, 1, term, 0));
        given.answers(1, f -> call.on(f, 2, term, 9));
    }

    private static void letsInSecond(Given given, AtomCall call, int term) {
        given.answers(1, f -> call.on(f, 2, -1, term));
    }

    private static void refusesInPlaces(Given given, AtomCall call, int term) {
        given.refuses(ARGUMENT, f -> call.on(f, 1, term, 0));
        given.refuses(ARGUMENT, f -> call.on(f, 2, term, 0));
        given.refuses(ARGUMENT, f -> call.on(f, 2, 0, term));
    }

    private static void refusesTerms(Given given, AtomCall call) {
        for (int term : NO_TERMS) {
            refusesInPlaces(given, call, term);
        }
        for (int term : NO_PLACE_TERMS) {
            given.refuses(ARGUMENT, f -> call.on(f, 0, term, 0));
            given.refuses(ARGUMENT, f -> call.on(f, 0, 0, term));
            given.refuses(ARGUMENT, f -> call.on(f, 1, 0, term));
        }
    }

    private static void refusesByOrder(Given given, AtomCall call) {
        given.refuses(INDEX, f -> call.on(f, 3, 10, 10));
        given.refuses(INDEX, f -> call.on(f, -1, 24, -6));
        given.refuses(ARGUMENT, f -> call.on(f, 1, 10, 0));
        given.refuses(ARGUMENT, f -> call.on(f, 0, 0, 1));
        given.refuses(STATE, f -> call.on(f, 1, 9, 0));
    }

    private Given threeKinds() {
        return given(0, 1, 2);
    }

    private static void add(StableFoundry f, AtomCall call, int times) {
        for (int i = 0; i < times; i++) {
            call.on(f, 0, 0, 0);
        }
    }

    // ---- promise 1

    @Sentence(promise = 1, value = "Creates a foundry without predicates and rules.")
    void newObject_hasNoPredicate() {
        Given empty = given();
        empty.refuses(INDEX, f -> f.head(0, 0, 0));
        empty.refuses(INDEX, f -> f.body(0, 0, 0, false));
        empty.refuses(INDEX, f -> f.element(0, 0, 0, 0));
        empty.refuses(INDEX, f -> f.external(0, 0, 0));
        empty.refuses(INDEX, f -> f.atom(0, 0, 0));
        empty.answers(0, f -> f.predicate(0));
    }

    @Sentence(promise = 1, value = "Creates a foundry without predicates and rules.")
    void newObject_hasNoRule_noAtomAndNoInstance() {
        Given empty = given();
        empty.answers(0, StableFoundry::ground);
        empty.answers(0, StableFoundry::groundAnew);
        empty.refuses(INDEX, f -> f.instance(0));
        empty.refuses(INDEX, f -> f.assign(0, 0));
        empty.refuses(INDEX, f -> f.prefer(0, 1));
        empty.refuses(INDEX, f -> f.bar(0));
        empty.refuses(INDEX, f -> f.loop(0));
        empty.refuses(INDEX, f -> f.support(0, 0));
        empty.answers(0, StableFoundry::enter);
    }

    @Sentence(promise = 1, value = "Creates a foundry without predicates and rules.")
    void newObject_hasTheEmptySetAsItsAnswer() {
        Given empty = given();
        empty.answers("0", Boundaries::sets);
        empty.answers(1, StableFoundry::answersAnew);
        empty.answers(2, f -> f.rank(0));
        empty.answers(0, f -> f.cost(0, 2));
        empty.answers(0, f -> f.value(0, 3));
        empty.answers(1, f -> f.assuming(0, 0));
        empty.answers(-1, f -> f.conflict(0, 0));
        empty.answers(1, f -> f.projected(0));
        empty.answers(0, f -> f.unfounded(0));
        empty.answers(0, StableFoundry::brave);
        empty.answers(0, StableFoundry::cautious);
        empty.refuses(INDEX, f -> f.answer(1));
        empty.refuses(ARGUMENT, f -> f.projected(1));
    }

    // ---- promise 2

    @Sentence(promise = 2, value = "Adds a predicate.")
    void predicate_addsOneOfItsPlaces() {
        given(0).answers(-1, f -> f.atom(0, 0, 0));
        given(0).refuses(ARGUMENT, f -> f.atom(0, 1, 0));
        given(1).answers(-1, f -> f.atom(0, 1, 0));
        given(1).refuses(ARGUMENT, f -> f.atom(0, 0, 1));
        given(2).answers(-1, f -> f.atom(0, 1, 1));
        given(2).refuses(INDEX, f -> f.atom(1, 0, 0));
    }

    @Sentence(promise = 2, value = "- `places`: 0 to 2")
    void predicate_places_0_to_2_areLetIn() {
        given().answers(0, f -> f.predicate(0));
        given().answers(0, f -> f.predicate(1));
        given().answers(0, f -> f.predicate(2));
    }

    @Sentence(promise = 2, value = "Returns its number.")
    void predicate_returnsItsNumber_0_to_5() {
        given().answers("0 1 2 3 4 5", f -> f.predicate(2) + " " + f.predicate(1) + " " + f.predicate(0) + " "
                + f.predicate(2) + " " + f.predicate(2) + " " + f.predicate(0));
    }

    @Sentence(promise = 2, value = "Throws `IllegalArgumentException` if places is out of range")
    void predicate_places_below0_orAbove2_areRefused() {
        for (int places : new int[] {-1, 3, LOW, HIGH}) {
            given().refuses(ARGUMENT, f -> f.predicate(places));
            given(0, 1, 2, 2, 1).refuses(ARGUMENT, f -> f.predicate(places));
        }
    }

    @Sentence(promise = 2, value = "Throws `IllegalStateException` if there are 6")
    void predicate_theSixth_isLetIn_theSeventhRefused() {
        given(0, 1, 2, 2, 1).answers(5, f -> f.predicate(2));
        Given six = given(0, 1, 2, 2, 1, 0);
        six.refuses(STATE, f -> f.predicate(0));
        six.refuses(STATE, f -> f.predicate(2));
    }

    @Sentence("If several apply, IndexOutOfBoundsException goes first, then IllegalArgumentException.")
    void predicate_ofWrongPlaces_whereThereAre6_isAnIllegalArgument() {
        given(0, 0, 0, 0, 0, 0).refuses(ARGUMENT, f -> f.predicate(3));
        given(0, 0, 0, 0, 0, 0).refuses(ARGUMENT, f -> f.predicate(-1));
    }

    // ---- promise 3

    @Sentence(promise = 3, value = "Adds an atom to the head of the draft.")
    void head_makesTheDraftsAtomsPossible() {
        threeKinds().and(f -> f.head(0, 0, 0)).and(f -> f.head(1, 9, 0)).and(f -> f.head(2, 0, 9))
                .and(StableFoundry::enter).answers("301 0 1 2",
                        f -> f.ground() + " " + f.atom(0, 0, 0) + " " + f.atom(1, 9, 0) + " " + f.atom(2, 0, 9));
    }

    @Sentence(promise = 3, value = "- `predicate`: a predicate")
    void head_theFirstAndTheLastPredicate_areLetIn() {
        letsInPredicates(threeKinds(), HEAD);
        given(0, 0, 0, 0, 0, 0).answers(1, f -> f.head(5, 0, 0));
    }

    @Sentence(promise = 3, value = "- `first`: a term (no Z); 0 if it has no such place")
    void head_first_allTermsButZ_areLetIn() {
        for (int term : TERMS) {
            letsInFirst(threeKinds(), HEAD, term);
        }
        threeKinds().answers(1, f -> f.head(0, 0, 0));
    }

    @Sentence(promise = 3, value = "- `second`: likewise")
    void head_second_allTermsButZ_areLetIn() {
        for (int term : TERMS) {
            letsInSecond(threeKinds(), HEAD, term);
        }
        threeKinds().answers(1, f -> f.head(1, 9, 0));
    }

    @Sentence(promise = 3, value = "Returns how many atoms the head has then.")
    void head_returns1_2_3() {
        threeKinds().answers("1 2 3",
                f -> f.head(0, 0, 0) + " " + f.head(0, 0, 0) + " " + f.head(2, -1, -2));
    }

    @Sentence(promise = 3, value = "Throws `IndexOutOfBoundsException` if there is no such predicate")
    void head_noSuchPredicate() {
        refusesPredicates(threeKinds(), HEAD);
        given().refuses(INDEX, f -> f.head(0, 0, 0));
        given(0, 0, 0, 0, 0, 0).refuses(INDEX, f -> f.head(6, 0, 0));
    }

    @Sentence(promise = 3, value = "Throws `IllegalArgumentException` if first or second is out of range")
    void head_noTerm_Z_orATermInNoPlace() {
        refusesTerms(threeKinds(), HEAD);
        refusesInPlaces(threeKinds(), HEAD, Z);
    }

    @Sentence(promise = 3, value = "Throws `IllegalStateException` if it has 3 atoms, or a weak cost or a difference")
    void head_theThirdAtom_isLetIn_theFourthRefused() {
        Given two = threeKinds().and(f -> add(f, HEAD, 2));
        two.answers(3, f -> f.head(1, 5, 0));
        two.and(f -> f.head(1, 5, 0)).refuses(STATE, f -> f.head(1, 5, 0));
        Given choice = two.and(f -> f.choice(0, 3));
        choice.answers(3, f -> f.head(0, 0, 0));
        choice.and(f -> f.head(0, 0, 0)).refuses(STATE, f -> f.head(0, 0, 0));
    }

    @Sentence(promise = 3, value = "Throws `IllegalStateException` if it has 3 atoms, or a weak cost or a difference")
    void head_withAWeakCostOrADifference() {
        threeKinds().and(f -> f.weak(1, 2)).refuses(STATE, f -> f.head(0, 0, 0));
        threeKinds().and(f -> f.difference(0, 1, 0)).refuses(STATE, f -> f.head(2, 0, 0));
    }

    @Sentence("If several apply, IndexOutOfBoundsException goes first, then IllegalArgumentException.")
    void head_whichOfSeveralGoesFirst() {
        refusesByOrder(threeKinds().and(f -> add(f, HEAD, 3)), HEAD);
        refusesByOrder(threeKinds().and(f -> f.weak(0, 0)), HEAD);
        refusesByOrder(threeKinds().and(f -> f.difference(3, 2, 1)), HEAD);
    }

    // ---- promise 4

    @Sentence(promise = 4, value = "Makes the head of the draft a choice, also of atoms that are added later.")
    void choice_isOfAtomsAddedBeforeAndLater() {
        Given three = given(0, 0, 0);
        String oneOrTwo = "1 2 3 4 5 6";
        three.and(f -> f.choice(1, 2)).and(f -> rule(f, 0)).answers("1", Boundaries::sets);
        Given later = three.and(f -> f.choice(1, 2)).and(f -> f.head(0, 0, 0)).and(f -> f.head(1, 0, 0));
        later.and(f -> rule(f, 2)).answers(oneOrTwo, Boundaries::sets);
        Given between = three.and(f -> f.head(0, 0, 0)).and(f -> f.choice(1, 2)).and(f -> f.head(1, 0, 0));
        between.and(f -> rule(f, 2)).answers(oneOrTwo, Boundaries::sets);
        three.and(f -> choose(f, 1, 2, 0, 1, 2)).answers(oneOrTwo, Boundaries::sets);
    }

    @Sentence(promise = 4, value = "- `least`: 0 to 3")
    void choice_least_0_to_3_areLetIn_andTell() {
        String[] due = {"0 1 2 3 4 5 6 7", "1 2 3 4 5 6 7", "3 5 6 7", "7"};
        for (int count = 0; count <= 3; count++) {
            int least = count;
            given().lets(f -> f.choice(least, 3));
            given(0, 0, 0).and(f -> choose(f, least, 3, 0, 1, 2)).answers(due[least], Boundaries::sets);
        }
    }

    @Sentence(promise = 4, value = "- `greatest`: least to 3")
    void choice_greatest_leastTo3_areLetIn_andTell() {
        String[] due = {"0", "0 1 2 4", "0 1 2 3 4 5 6", "0 1 2 3 4 5 6 7"};
        String[] alone = {"0", "1 2 4", "3 5 6", "7"};
        for (int count = 0; count <= 3; count++) {
            int greatest = count;
            given(0, 0, 0).and(f -> choose(f, 0, greatest, 0, 1, 2)).answers(due[greatest], Boundaries::sets);
            given(0, 0, 0).and(f -> choose(f, greatest, greatest, 0, 1, 2))
                    .answers(alone[greatest], Boundaries::sets);
        }
    }

    @Sentence(promise = 4, value = "- `least`: 0 to 3")
    void choice_leastOfMoreThanItsAtoms_isLetIn_andNeverSo() {
        given(0, 0).and(f -> choose(f, 3, 3, 0, 1)).answers(0, StableFoundry::answers);
        given(0, 0).and(f -> choose(f, 2, 3, 0, 1)).answers("3", Boundaries::sets);
        given(0, 0).and(f -> choose(f, 2, 2, 0)).answers(0, StableFoundry::answers);
    }

    @Sentence(promise = 4, value = "Throws `IllegalArgumentException` if least or greatest is out of range")
    void choice_leastOrGreatest_outOfRange() {
        int[][] wrong = {{-1, 0}, {-1, 3}, {LOW, 0}, {4, 4}, {4, 3}, {HIGH, HIGH}, {0, 4}, {3, 4}, {0, HIGH}, {0, -1},
            {1, 0}, {3, 2}, {2, LOW}, {-1, -1}};
        for (int[] two : wrong) {
            given(0).refusesToDo(ARGUMENT, f -> f.choice(two[0], two[1]));
            given(0).and(f -> f.head(0, 0, 0)).refusesToDo(ARGUMENT, f -> f.choice(two[0], two[1]));
        }
    }

    @Sentence(promise = 4, value = "Throws `IllegalStateException` if it is a choice, or has a weak cost or a difference")
    void choice_ofAChoice_aWeakCostOrADifference() {
        given(0).and(f -> f.choice(1, 1)).refusesToDo(STATE, f -> f.choice(0, 3));
        given(0).and(f -> f.head(0, 0, 0)).and(f -> f.choice(0, 0)).refusesToDo(STATE, f -> f.choice(0, 0));
        given(0).and(f -> f.weak(1, 1)).refusesToDo(STATE, f -> f.choice(0, 3));
        given(0).and(f -> f.difference(0, 1, 1)).refusesToDo(STATE, f -> f.choice(3, 3));
        given(0).and(f -> add(f, HEAD, 3)).lets(f -> f.choice(0, 3));
        given(0).and(f -> f.choice(1, 1)).and(f -> rule(f, 0)).lets(f -> f.choice(0, 3));
    }

    @Sentence("If several apply, IndexOutOfBoundsException goes first, then IllegalArgumentException.")
    void choice_whichOfSeveralGoesFirst() {
        given(0).and(f -> f.choice(1, 1)).refusesToDo(ARGUMENT, f -> f.choice(1, 0));
        given(0).and(f -> f.weak(1, 1)).refusesToDo(ARGUMENT, f -> f.choice(0, 4));
        given(0).and(f -> f.difference(0, 1, 1)).refusesToDo(ARGUMENT, f -> f.choice(-1, 3));
    }

    // ---- promise 5

    @Sentence(promise = 5, value = "Makes the head of the draft a weak cost.")
    void weak_costs_andRulesOutNothing() {
        Given weak = given(0).and(f -> free(f, 0)).and(f -> weakOf(f, 3, 1, 0));
        weak.answers("0 1", Boundaries::sets);
        weak.answers("0 3", f -> f.cost(0, 1) + " " + f.cost(1, 1));
    }

    @Sentence(promise = 5, value = "- `weight`: any number")
    void weak_weight_leastAndGreatestInt_areLetIn() {
        for (int weight : new int[] {LOW, -1, 0, 1, HIGH}) {
            given().and(f -> weakOf(f, weight, 0)).answers(weight, f -> f.cost(0, 0));
        }
    }

    @Sentence(promise = 5, value = "- `level`: 0 to 2")
    void weak_level_0_to_2_areLetIn() {
        String[] due = {"5 0 0", "0 5 0", "0 0 5"};
        for (int number = 0; number < 3; number++) {
            int level = number;
            given().and(f -> weakOf(f, 5, level))
                    .answers(due[level], f -> f.cost(0, 0) + " " + f.cost(0, 1) + " " + f.cost(0, 2));
        }
    }

    @Sentence(promise = 5, value = "Throws `IndexOutOfBoundsException` if there is no such level")
    void weak_level_below0_orAbove2() {
        for (int level : new int[] {-1, 3, LOW, HIGH}) {
            given(0).refusesToDo(INDEX, f -> f.weak(1, level));
        }
    }

    @Sentence(promise = 5, value = "Throws `IllegalStateException` if it has atoms, is a choice, or has a weak cost or a difference")
    void weak_withAnAtom_aChoice_aWeakCostOrADifference() {
        given(0).and(f -> f.head(0, 0, 0)).refusesToDo(STATE, f -> f.weak(1, 0));
        given(0).and(f -> f.choice(0, 0)).refusesToDo(STATE, f -> f.weak(1, 0));
        given(0).and(f -> f.weak(2, 1)).refusesToDo(STATE, f -> f.weak(1, 0));
        given(0).and(f -> f.difference(0, 1, 2)).refusesToDo(STATE, f -> f.weak(1, 0));
        Given fullBody = given(0).and(BoundaryRulesTest::fillBody);
        fullBody.lets(f -> f.weak(1, 0));
    }

    private static void fillBody(StableFoundry f) {
        add(f, BODY, 3);
        add(f, NOT, 3);
        f.compare(0, 1, 1);
        f.compare(0, 1, 1);
        f.compare(0, 1, 1);
        f.interval(0, 1, 1);
        f.sum(0, 0);
        add(f, ELEMENT, 4);
    }

    @Sentence("If several apply, IndexOutOfBoundsException goes first, then IllegalArgumentException.")
    void weak_ofNoLevel_whereItIsNotPossible_isIndexOutOfBounds() {
        given(0).and(f -> f.head(0, 0, 0)).refusesToDo(INDEX, f -> f.weak(1, 3));
        given(0).and(f -> f.choice(0, 0)).refusesToDo(INDEX, f -> f.weak(1, -1));
        given(0).and(f -> f.weak(2, 1)).refusesToDo(INDEX, f -> f.weak(1, 3));
        given(0).and(f -> f.difference(0, 1, 2)).refusesToDo(INDEX, f -> f.weak(1, 3));
    }

    // ---- promise 6

    @Sentence(promise = 6, value = "Makes the head of the draft a difference: x less y is at most c.")
    void difference_xLessY_isAtMostC() {
        given().and(f -> differ(f, 1, 2, -4)).answers("0 -4 0 0", BoundaryRulesTest::values);
        given().and(f -> differ(f, 1, 2, 0)).answers("0 0 0 0", BoundaryRulesTest::values);
        given().and(f -> differ(f, 1, 2, 4)).answers("0 0 0 0", BoundaryRulesTest::values);
    }

    private static String values(StableFoundry f) {
        return f.value(0, 0) + " " + f.value(0, 1) + " " + f.value(0, 2) + " " + f.value(0, 3);
    }

    @Sentence(promise = 6, value = "- `x`: 0 to 3")
    void difference_x_0_to_3_areLetIn() {
        String[] due = {"-1 0 0 0", "0 -1 0 0", "0 0 -1 0", "0 0 0 -1"};
        for (int number = 0; number < 4; number++) {
            int x = number;
            given().and(f -> differ(f, x, (x + 1) % 4, -1)).answers(due[x], BoundaryRulesTest::values);
        }
    }

    @Sentence(promise = 6, value = "- `y`: 0 to 3")
    void difference_y_0_to_3_areLetIn() {
        for (int number = 0; number < 4; number++) {
            int y = number;
            int x = (y + 1) % 4;
            int other = (y + 2) % 4;
            given().and(f -> differ(f, x, y, -1)).and(f -> differ(f, y, other, -2))
                    .answers("-3 -2", f -> f.value(0, x) + " " + f.value(0, y));
        }
    }

    @Sentence(promise = 6, value = "- `c`: -100 to 100")
    void difference_c_100Below_and100Above_areLetIn() {
        given().and(f -> differ(f, 0, 3, -100)).answers("-100 0 0 0", BoundaryRulesTest::values);
        given().and(f -> differ(f, 3, 0, 100)).answers("0 0 0 0", BoundaryRulesTest::values);
        given().and(f -> differ(f, 0, 3, -100)).and(f -> differ(f, 3, 0, 100))
                .answers("-100 0 0 0", BoundaryRulesTest::values);
        given().and(f -> differ(f, 0, 3, -100)).and(f -> differ(f, 3, 0, 99)).answers(0, StableFoundry::answers);
    }

    @Sentence(promise = 6, value = "Throws `IndexOutOfBoundsException` if there is no such number")
    void difference_xOrY_below0_orAbove3() {
        for (int number : new int[] {-1, 4, LOW, HIGH}) {
            given(0).refusesToDo(INDEX, f -> f.difference(number, 0, 0));
            given(0).refusesToDo(INDEX, f -> f.difference(3, number, 0));
            given(0).refusesToDo(INDEX, f -> f.difference(number, number, 0));
        }
    }

    @Sentence(promise = 6, value = "Throws `IllegalArgumentException` if x is y, or c is out of range")
    void difference_ofANumberToItself() {
        for (int number = 0; number < 4; number++) {
            int x = number;
            given(0).refusesToDo(ARGUMENT, f -> f.difference(x, x, 0));
        }
    }

    @Sentence(promise = 6, value = "Throws `IllegalArgumentException` if x is y, or c is out of range")
    void difference_c_below100Below_orAbove100() {
        for (int c : new int[] {-101, 101, LOW, HIGH}) {
            given(0).refusesToDo(ARGUMENT, f -> f.difference(0, 1, c));
            given(0).refusesToDo(ARGUMENT, f -> f.difference(3, 2, c));
        }
    }

    @Sentence(promise = 6, value = "Throws `IllegalStateException` if it has atoms, is a choice, or has a weak cost or a difference")
    void difference_withAnAtom_aChoice_aWeakCostOrADifference() {
        given(0).and(f -> f.head(0, 0, 0)).refusesToDo(STATE, f -> f.difference(0, 1, 0));
        given(0).and(f -> f.choice(0, 0)).refusesToDo(STATE, f -> f.difference(0, 1, 0));
        given(0).and(f -> f.weak(2, 1)).refusesToDo(STATE, f -> f.difference(0, 1, 0));
        given(0).and(f -> f.difference(0, 1, 2)).refusesToDo(STATE, f -> f.difference(0, 1, 2));
        given(0).and(BoundaryRulesTest::fillBody).lets(f -> f.difference(0, 1, 0));
    }

    @Sentence("If several apply, IndexOutOfBoundsException goes first, then IllegalArgumentException.")
    void difference_whichOfSeveralGoesFirst() {
        given(0).refusesToDo(INDEX, f -> f.difference(4, 4, 0));
        given(0).refusesToDo(INDEX, f -> f.difference(0, 4, 101));
        Given atoms = given(0).and(f -> f.head(0, 0, 0));
        atoms.refusesToDo(INDEX, f -> f.difference(-1, 0, -101));
        atoms.refusesToDo(ARGUMENT, f -> f.difference(1, 1, 0));
        atoms.refusesToDo(ARGUMENT, f -> f.difference(0, 1, 101));
        given(0).and(f -> f.choice(0, 0)).refusesToDo(ARGUMENT, f -> f.difference(0, 1, -101));
        given(0).and(f -> f.weak(2, 1)).refusesToDo(INDEX, f -> f.difference(0, 4, 0));
        given(0).and(f -> f.difference(0, 1, 2)).refusesToDo(ARGUMENT, f -> f.difference(2, 2, 0));
    }

    // ---- promise 7

    @Sentence(promise = 7, value = "Adds an atom to the body of the draft.")
    void body_isAskedInSets() {
        Given two = given(0, 0, 0).and(f -> free(f, 0, 1));
        two.and(f -> f.body(0, 0, 0, false)).and(f -> f.body(1, 0, 0, true)).and(f -> rule(f, 2))
                .answers("0 2 3 5", Boundaries::sets);
    }

    @Sentence(promise = 7, value = "- `predicate`: a predicate")
    void body_theFirstAndTheLastPredicate_areLetIn() {
        letsInPredicates(threeKinds(), BODY);
        letsInPredicates(threeKinds(), NOT);
        given(0, 0, 0, 0, 0, 0).answers(1, f -> f.body(5, 0, 0, true));
    }

    @Sentence(promise = 7, value = "- `first`: a term (no Z); 0 if it has no such place")
    void body_first_allTermsButZ_areLetIn() {
        for (int term : TERMS) {
            letsInFirst(threeKinds(), BODY, term);
            letsInFirst(threeKinds(), NOT, term);
        }
        threeKinds().answers(1, f -> f.body(0, 0, 0, false));
    }

    @Sentence(promise = 7, value = "- `second`: likewise")
    void body_second_allTermsButZ_areLetIn() {
        for (int term : TERMS) {
            letsInSecond(threeKinds(), BODY, term);
            letsInSecond(threeKinds(), NOT, term);
        }
        threeKinds().answers(1, f -> f.body(1, 9, 0, false));
    }

    @Sentence(promise = 7, value = "- `isNot`: whether it may not be so")
    void body_isNot_tellsTheSort() {
        Given one = given(0, 0).and(f -> free(f, 0));
        one.and(f -> f.body(0, 0, 0, true)).and(f -> rule(f, 1)).answers("1 2", Boundaries::sets);
        one.and(f -> f.body(0, 0, 0, false)).and(f -> rule(f, 1)).answers("0 3", Boundaries::sets);
    }

    @Sentence(promise = 7, value = "Returns how many atoms of its sort the body has then.")
    void body_countsEachSortByItself_1_2_3() {
        threeKinds().answers("1 1 2 3 2 3",
                f -> f.body(0, 0, 0, false) + " " + f.body(0, 0, 0, true) + " " + f.body(0, 0, 0, false) + " "
                        + f.body(1, -1, 0, false) + " " + f.body(0, 0, 0, true) + " " + f.body(2, 9, 9, true));
    }

    @Sentence(promise = 7, value = "Throws `IndexOutOfBoundsException` if there is no such predicate")
    void body_noSuchPredicate() {
        refusesPredicates(threeKinds(), BODY);
        refusesPredicates(threeKinds(), NOT);
        given().refuses(INDEX, f -> f.body(0, 0, 0, false));
        given(0, 0, 0, 0, 0, 0).refuses(INDEX, f -> f.body(6, 0, 0, true));
    }

    @Sentence(promise = 7, value = "Throws `IllegalArgumentException` if first or second is out of range")
    void body_noTerm_Z_orATermInNoPlace() {
        refusesTerms(threeKinds(), BODY);
        refusesInPlaces(threeKinds(), BODY, Z);
        refusesTerms(threeKinds(), NOT);
        refusesInPlaces(threeKinds(), NOT, Z);
    }

    @Sentence(promise = 7, value = "Throws `IllegalStateException` if it has 3 of its sort")
    void body_theThirdOfASort_isLetIn_theFourthRefused() {
        Given so = threeKinds().and(f -> add(f, BODY, 2));
        so.answers(3, f -> f.body(1, 5, 0, false));
        so.and(f -> f.body(1, 5, 0, false)).refuses(STATE, f -> f.body(1, 5, 0, false));
        Given not = threeKinds().and(f -> add(f, NOT, 2));
        not.answers(3, f -> f.body(1, 5, 0, true));
        not.and(f -> f.body(1, 5, 0, true)).refuses(STATE, f -> f.body(1, 5, 0, true));
    }

    @Sentence(promise = 7, value = "Throws `IllegalStateException` if it has 3 of its sort")
    void body_threeOfOneSort_leaveRoomForTheOther() {
        threeKinds().and(f -> add(f, BODY, 3)).answers(1, f -> f.body(0, 0, 0, true));
        threeKinds().and(f -> add(f, NOT, 3)).answers(1, f -> f.body(0, 0, 0, false));
        threeKinds().and(f -> add(f, NOT, 3)).and(f -> add(f, BODY, 2)).answers(3, f -> f.body(0, 0, 0, false));
    }

    @Sentence("If several apply, IndexOutOfBoundsException goes first, then IllegalArgumentException.")
    void body_whichOfSeveralGoesFirst() {
        refusesByOrder(threeKinds().and(f -> add(f, BODY, 3)), BODY);
        refusesByOrder(threeKinds().and(f -> add(f, NOT, 3)), NOT);
    }

    // ---- promise 8

    @Sentence(promise = 8, value = "Adds a comparison to the body of the draft.")
    void compare_leavesTheInstancesForWhichAllHold() {
        Given three = given().and(f -> f.interval(0, 0, 9)).and(f -> f.compare(2, 2, -1)).and(f -> f.compare(3, -1, 5));
        three.and(StableFoundry::enter).answers("3000 4000 5000", Boundaries::instances);
        three.and(f -> f.compare(1, 4, -1)).and(StableFoundry::enter).answers("3000 5000", Boundaries::instances);
    }

    @Sentence(promise = 8, value = "- `kind`: 0 to 3")
    void compare_kind_0_to_3_areLetIn_andTell() {
        String[] due = {"5000", "4000 6000", "4000", "4000 5000"};
        String[] turned = {"5000", "4000 6000", "6000", "5000 6000"};
        for (int number = 0; number < 4; number++) {
            int kind = number;
            Given four = given().and(f -> f.interval(0, 4, 6));
            four.answers(1, f -> f.compare(kind, -1, 5));
            four.and(f -> f.compare(kind, -1, 5)).and(StableFoundry::enter).answers(due[kind], Boundaries::instances);
            four.and(f -> f.compare(kind, 5, -1)).and(StableFoundry::enter)
                    .answers(turned[kind], Boundaries::instances);
        }
    }

    @Sentence(promise = 8, value = "- `first`: a term (no Z)")
    void compare_first_allTermsButZ_areLetIn() {
        for (int term : TERMS) {
            given().answers(1, f -> f.compare(0, term, 9));
        }
    }

    @Sentence(promise = 8, value = "- `second`: a term (no Z)")
    void compare_second_allTermsButZ_areLetIn() {
        for (int term : TERMS) {
            given().answers(1, f -> f.compare(3, 0, term));
        }
    }

    @Sentence(promise = 8, value = "Returns how many comparisons it has then.")
    void compare_returns1_2_3() {
        given().answers("1 2 3", f -> f.compare(0, 1, 2) + " " + f.compare(0, 1, 2) + " " + f.compare(3, -1, 20));
    }

    @Sentence(promise = 8, value = "Throws `IllegalArgumentException` if kind, first or second is out of range")
    void compare_kind_below0_orAbove3() {
        for (int kind : new int[] {-1, 4, LOW, HIGH}) {
            given(0).refuses(ARGUMENT, f -> f.compare(kind, 0, 0));
        }
    }

    @Sentence(promise = 8, value = "Throws `IllegalArgumentException` if kind, first or second is out of range")
    void compare_firstOrSecond_noTermOrZ() {
        for (int term : NO_TERMS) {
            given(0).refuses(ARGUMENT, f -> f.compare(0, term, 0));
            given(0).refuses(ARGUMENT, f -> f.compare(0, 0, term));
        }
        given(0).refuses(ARGUMENT, f -> f.compare(1, Z, 0));
        given(0).refuses(ARGUMENT, f -> f.compare(1, 0, Z));
    }

    @Sentence(promise = 8, value = "Throws `IllegalStateException` if it has 3")
    void compare_theThird_isLetIn_theFourthRefused() {
        Given two = given(0).and(f -> f.compare(0, 1, 1)).and(f -> f.compare(0, 1, 1));
        two.answers(3, f -> f.compare(0, 1, 1));
        two.and(f -> f.compare(0, 1, 1)).refuses(STATE, f -> f.compare(0, 1, 1));
        two.and(f -> f.compare(0, 1, 1)).and(StableFoundry::drop).answers(1, f -> f.compare(0, 1, 1));
    }

    @Sentence("If several apply, IndexOutOfBoundsException goes first, then IllegalArgumentException.")
    void compare_outOfRange_whereItHas3_isAnIllegalArgument() {
        Given three = given(0).and(f -> f.compare(0, 1, 1)).and(f -> f.compare(0, 1, 1)).and(f -> f.compare(0, 1, 1));
        three.refuses(ARGUMENT, f -> f.compare(4, 1, 1));
        three.refuses(ARGUMENT, f -> f.compare(0, 10, 1));
        three.refuses(ARGUMENT, f -> f.compare(0, 1, Z));
    }

    // ---- promise 9

    @Sentence(promise = 9, value = "Gives a variable of the draft an interval, in place of an earlier one.")
    void interval_takesThePlaceOfAnEarlierOne() {
        Given row = given(1).and(f -> f.head(0, -1, 0)).and(f -> f.interval(0, 0, 9)).and(f -> f.interval(0, 3, 4));
        row.and(StableFoundry::enter).answers("3000 4000", Boundaries::instances);
        row.and(f -> f.interval(0, 9, 9)).and(StableFoundry::enter).answers("9000", Boundaries::instances);
        row.and(f -> f.interval(1, 9, 9)).and(StableFoundry::enter).answers("3000 4000", Boundaries::instances);
    }

    @Sentence(promise = 9, value = "- `variable`: 0 to 3")
    void interval_variable_0_to_3_areLetIn() {
        String[] due = {"7000 8000", "700 800", "70 80", "7 8"};
        for (int number = 0; number < 4; number++) {
            int variable = number;
            given(1).and(f -> f.head(0, -1 - variable, 0)).and(f -> f.interval(variable, 7, 8))
                    .and(StableFoundry::enter).answers(due[variable], Boundaries::instances);
        }
    }

    @Sentence(promise = 9, value = "- `from`: 0 to 9")
    void interval_from_0_and9_areLetIn() {
        Given row = given(1).and(f -> f.head(0, -4, 0));
        row.and(f -> f.interval(3, 0, 0)).and(StableFoundry::enter).answers("0", Boundaries::instances);
        row.and(f -> f.interval(3, 9, 9)).and(StableFoundry::enter).answers("9", Boundaries::instances);
    }

    @Sentence(promise = 9, value = "- `to`: from to 9")
    void interval_to_fromTo9_areLetIn() {
        Given row = given(1).and(f -> f.head(0, -4, 0));
        row.and(f -> f.interval(3, 5, 5)).and(StableFoundry::enter).answers("5", Boundaries::instances);
        row.and(f -> f.interval(3, 8, 9)).and(StableFoundry::enter).answers("8 9", Boundaries::instances);
        row.and(f -> f.interval(3, 0, 9)).and(StableFoundry::enter)
                .answers("0 1 2 3 4 5 6 7 8 9", Boundaries::instances);
    }

    @Sentence(promise = 9, value = "Throws `IllegalArgumentException` if variable, from or to is out of range")
    void interval_variableFromOrTo_outOfRange() {
        int[][] wrong = {{-1, 0, 0}, {4, 0, 0}, {LOW, 0, 0}, {HIGH, 0, 0}, {0, -1, 0}, {0, -1, -1}, {0, LOW, 9},
            {0, 10, 10}, {0, 10, 9}, {0, HIGH, HIGH}, {0, 0, -1}, {0, 5, 4}, {0, 0, LOW}, {0, 0, 10}, {0, 9, 10},
            {3, 0, HIGH}};
        for (int[] three : wrong) {
            given(1).refusesToDo(ARGUMENT, f -> f.interval(three[0], three[1], three[2]));
            given(1).and(f -> f.head(0, -1, 0)).and(f -> f.interval(0, 2, 3))
                    .refusesToDo(ARGUMENT, f -> f.interval(three[0], three[1], three[2]));
        }
    }

    // ---- promise 10

    @Sentence(promise = 10, value = "Begins the sum of the draft.")
    void sum_withoutElements_isZero() {
        int[][] holding = {{0, 0}, {-1, 0}, {0, 1}, {LOW, HIGH}};
        for (int[] two : holding) {
            given(0).and(f -> f.sum(two[0], two[1])).and(f -> rule(f, 0)).answers("1", Boundaries::sets);
        }
        int[][] broken = {{1, 1}, {-1, -1}, {1, HIGH}, {LOW, -1}};
        for (int[] two : broken) {
            given(0).and(f -> f.sum(two[0], two[1])).and(f -> rule(f, 0)).answers("0", Boundaries::sets);
        }
    }

    @Sentence(promise = 10, value = "- `least`: any number")
    void sum_least_leastAndGreatestInt_areLetIn() {
        given().lets(f -> f.sum(LOW, 0));
        given().lets(f -> f.sum(LOW, LOW));
        given().lets(f -> f.sum(HIGH, HIGH));
    }

    @Sentence(promise = 10, value = "- `greatest`: least or more")
    void sum_greatest_leastAndTheGreatestInt_areLetIn() {
        given().lets(f -> f.sum(5, 5));
        given().lets(f -> f.sum(-5, HIGH));
        given().lets(f -> f.sum(LOW, HIGH));
    }

    @Sentence(promise = 10, value = "Throws `IllegalArgumentException` if greatest is less")
    void sum_greatest_less_byOneAndByMost() {
        int[][] wrong = {{1, 0}, {0, -1}, {LOW + 1, LOW}, {HIGH, HIGH - 1}, {HIGH, LOW}, {1, LOW}};
        for (int[] two : wrong) {
            given(0).refusesToDo(ARGUMENT, f -> f.sum(two[0], two[1]));
        }
    }

    @Sentence(promise = 10, value = "Throws `IllegalStateException` if it has one")
    void sum_aSecondOne_isRefused() {
        given(0).and(f -> f.sum(0, 0)).refusesToDo(STATE, f -> f.sum(1, 2));
        given(0).and(f -> f.sum(1, 2)).and(f -> add(f, ELEMENT, 2)).refusesToDo(STATE, f -> f.sum(0, 0));
        given(0).and(f -> f.sum(0, 0)).and(StableFoundry::drop).lets(f -> f.sum(1, 2));
        given(0).and(f -> f.sum(0, 0)).and(StableFoundry::enter).lets(f -> f.sum(1, 2));
    }

    @Sentence("If several apply, IndexOutOfBoundsException goes first, then IllegalArgumentException.")
    void sum_ofALessGreatest_whereItHasOne_isAnIllegalArgument() {
        given(0).and(f -> f.sum(0, 0)).refusesToDo(ARGUMENT, f -> f.sum(1, 0));
    }

    // ---- promise 11

    private Given withSum() {
        return threeKinds().and(f -> f.sum(1, 2));
    }

    @Sentence(promise = 11, value = "Adds an element to the sum of the draft.")
    void element_countsInTheSum() {
        Given two = given(0, 0, 0).and(f -> free(f, 0, 1)).and(f -> f.sum(1, 1));
        two.and(f -> f.element(1, 0, 0, 0)).and(f -> rule(f, 2)).answers("0 2 5 7", Boundaries::sets);
        two.and(f -> f.element(1, 0, 0, 0)).and(f -> f.element(1, 1, 0, 0)).and(f -> rule(f, 2))
                .answers("0 3 5 6", Boundaries::sets);
    }

    @Sentence(promise = 11, value = "- `weight`: any number")
    void element_weight_leastAndGreatestInt_areLetIn() {
        for (int weight : new int[] {LOW, -1, 0, 1, HIGH}) {
            Given one = given(0, 0).and(f -> rule(f, 0)).and(f -> f.sum(weight, weight));
            one.answers(1, f -> f.element(weight, 0, 0, 0));
            one.and(f -> f.element(weight, 0, 0, 0)).and(f -> rule(f, 1)).answers("3", Boundaries::sets);
        }
    }

    @Sentence(promise = 11, value = "- `predicate`: a predicate")
    void element_theFirstAndTheLastPredicate_areLetIn() {
        letsInPredicates(withSum(), ELEMENT);
        given(0, 0, 0, 0, 0, 0).and(f -> f.sum(0, 0)).answers(1, f -> f.element(0, 5, 0, 0));
    }

    @Sentence(promise = 11, value = "- `first`: a term; 0 if it has no such place")
    void element_first_allTermsAndZ_areLetIn() {
        for (int term : TERMS) {
            letsInFirst(withSum(), ELEMENT, term);
        }
        letsInFirst(withSum(), ELEMENT, Z);
        withSum().answers(1, f -> f.element(1, 0, 0, 0));
    }

    @Sentence(promise = 11, value = "- `second`: likewise")
    void element_second_allTermsAndZ_areLetIn() {
        for (int term : TERMS) {
            letsInSecond(withSum(), ELEMENT, term);
        }
        letsInSecond(withSum(), ELEMENT, Z);
        withSum().answers(1, f -> f.element(1, 2, Z, Z));
        withSum().answers(1, f -> f.element(1, 1, Z, 0));
    }

    @Sentence(promise = 11, value = "Returns how many elements it has then.")
    void element_returns1_2_3_4() {
        withSum().answers("1 2 3 4", f -> f.element(1, 0, 0, 0) + " " + f.element(1, 0, 0, 0) + " "
                + f.element(LOW, 1, Z, 0) + " " + f.element(HIGH, 2, -1, 23));
    }

    @Sentence(promise = 11, value = "Throws `IndexOutOfBoundsException` if there is no such predicate")
    void element_noSuchPredicate() {
        refusesPredicates(withSum(), ELEMENT);
        given().and(f -> f.sum(0, 0)).refuses(INDEX, f -> f.element(1, 0, 0, 0));
        given(0, 0, 0, 0, 0, 0).and(f -> f.sum(0, 0)).refuses(INDEX, f -> f.element(1, 6, 0, 0));
    }

    @Sentence(promise = 11, value = "Throws `IllegalArgumentException` if first or second is out of range")
    void element_noTerm_orATermInNoPlace() {
        refusesTerms(withSum(), ELEMENT);
    }

    @Sentence(promise = 11, value = "Throws `IllegalStateException` if there is no sum, or it has 4")
    void element_withoutASum() {
        threeKinds().refuses(STATE, f -> f.element(1, 0, 0, 0));
        threeKinds().refuses(STATE, f -> f.element(1, 2, Z, 9));
        withSum().and(StableFoundry::drop).refuses(STATE, f -> f.element(1, 0, 0, 0));
        withSum().and(StableFoundry::enter).refuses(STATE, f -> f.element(1, 0, 0, 0));
    }

    @Sentence(promise = 11, value = "Throws `IllegalStateException` if there is no sum, or it has 4")
    void element_theFourth_isLetIn_theFifthRefused() {
        Given three = withSum().and(f -> add(f, ELEMENT, 3));
        three.answers(4, f -> f.element(1, 1, Z, 0));
        three.and(f -> f.element(1, 1, Z, 0)).refuses(STATE, f -> f.element(1, 1, Z, 0));
    }

    @Sentence("If several apply, IndexOutOfBoundsException goes first, then IllegalArgumentException.")
    void element_whichOfSeveralGoesFirst() {
        refusesByOrder(threeKinds(), ELEMENT);
        refusesByOrder(withSum().and(f -> add(f, ELEMENT, 4)), ELEMENT);
    }

    // ---- promise 12

    @Sentence(promise = 12, value = "Empties the draft.")
    void drop_leavesNothingOfTheDraft() {
        Given dropped = given(0).and(BoundaryRulesTest::fillBody).and(f -> choose0(f)).and(StableFoundry::drop);
        dropped.answers(1, f -> f.head(0, 0, 0));
        dropped.answers(1, f -> f.body(0, 0, 0, false));
        dropped.answers(1, f -> f.body(0, 0, 0, true));
        dropped.answers(1, f -> f.compare(0, 0, 0));
        dropped.lets(f -> f.choice(3, 3));
        dropped.lets(f -> f.weak(1, 0));
        dropped.lets(f -> f.difference(0, 1, 0));
        dropped.refuses(STATE, f -> f.element(0, 0, 0, 0));
        dropped.and(f -> f.sum(0, 0)).answers(1, f -> f.element(0, 0, 0, 0));
        dropped.and(f -> f.compare(0, -1, -1)).refuses(ARGUMENT, StableFoundry::enter);
    }

    private static void choose0(StableFoundry f) {
        add(f, HEAD, 3);
        f.choice(2, 2);
    }

    @Sentence(promise = 12, value = "Empties the draft.")
    void drop_takesAWeakCostAndADifferenceAway() {
        given(0).and(f -> f.weak(1, 1)).and(StableFoundry::drop).answers(1, f -> f.head(0, 0, 0));
        given(0).and(f -> f.difference(0, 1, 1)).and(StableFoundry::drop).lets(f -> f.weak(1, 0));
        Given plain = given(0).and(f -> f.choice(0, 3)).and(StableFoundry::drop).and(f -> rule(f, 0));
        plain.answers("1", Boundaries::sets);
    }

    @Sentence(promise = 12, value = "Empties the draft.")
    void drop_ofAnEmptyDraft_andTwice_changesNothing() {
        given().and(StableFoundry::drop).and(StableFoundry::drop).answers(0, StableFoundry::enter);
        Given rules = given(0, 0).and(f -> free(f, 0)).and(StableFoundry::drop);
        rules.answers("0 1", Boundaries::sets);
        rules.answers(101, StableFoundry::ground);
        rules.answers(2, f -> f.predicate(0));
    }

    // ---- promise 13

    @Sentence(promise = 13, value = "Enters the draft as a rule; it is empty then.")
    void enter_leavesAnEmptyDraft() {
        Given entered = given(0).and(BoundaryRulesTest::fillBody).and(f -> choose0(f)).and(StableFoundry::enter);
        entered.answers(1, f -> f.head(0, 0, 0));
        entered.answers(1, f -> f.body(0, 0, 0, false));
        entered.answers(1, f -> f.body(0, 0, 0, true));
        entered.answers(1, f -> f.compare(0, 0, 0));
        entered.lets(f -> f.choice(3, 3));
        entered.lets(f -> f.weak(1, 0));
        entered.lets(f -> f.sum(1, 1));
        entered.and(f -> f.compare(0, -1, -1)).refuses(ARGUMENT, StableFoundry::enter);
    }

    @Sentence(promise = 13, value = "Enters the draft as a rule; it is empty then.")
    void enter_ofAnEmptyDraft_isARuleThatNothingSatisfies() {
        given().and(StableFoundry::enter).answers("1 0", f -> f.ground() + " " + f.answers());
    }

    @Sentence(promise = 13, value = "Returns its number.")
    void enter_returnsItsNumber_0_to_19() {
        for (int count = 0; count < 20; count++) {
            int rules = count;
            given().and(f -> enterWeak(f, rules)).answers(rules, StableFoundry::enter);
        }
    }

    private static void enterWeak(StableFoundry f, int times) {
        for (int i = 0; i < times; i++) {
            weakOf(f, 1, 0);
        }
    }

    private void unsafe(Steps part) {
        Given draft = given(2, 1).and(part);
        draft.refuses(ARGUMENT, StableFoundry::enter);
        draft.and(f -> f.interval(0, 0, 9)).refuses(ARGUMENT, StableFoundry::enter);
        draft.and(f -> f.body(1, -2, 0, true)).refuses(ARGUMENT, StableFoundry::enter);
        draft.and(f -> f.body(1, 21, 0, false)).refuses(ARGUMENT, StableFoundry::enter);
        draft.and(f -> f.body(1, -1, 0, false)).refuses(ARGUMENT, StableFoundry::enter);
        draft.and(f -> f.interval(1, 9, 9)).answers(0, StableFoundry::enter);
        draft.and(f -> f.body(1, -2, 0, false)).answers(0, StableFoundry::enter);
        draft.and(f -> f.body(0, 3, -2, false)).answers(0, StableFoundry::enter);
    }

    @Sentence(promise = 13, value = "Throws `IllegalArgumentException` if it is not safe, or a choice without atoms")
    void enter_notSafe_byAVariableInAnyPart() {
        unsafe(f -> f.head(0, 1, -2));
        unsafe(f -> f.head(1, 21, 0));
        unsafe(f -> f.body(1, -2, 0, true));
        unsafe(f -> f.body(0, 21, 5, true));
        unsafe(f -> f.body(1, 21, 0, false));
        unsafe(f -> f.compare(0, 3, -2));
        unsafe(f -> f.compare(0, 21, 2));
        unsafe(f -> unsafeElement(f, -2));
        unsafe(f -> unsafeElement(f, 21));
    }

    private static void unsafeElement(StableFoundry f, int term) {
        f.sum(0, 0);
        f.element(1, 0, Z, term);
    }

    @Sentence(promise = 13, value = "Throws `IllegalArgumentException` if it is not safe, or a choice without atoms")
    void enter_safeWithout_variables_orWithZAlone() {
        given(2).and(f -> f.sum(0, 0)).and(f -> f.element(1, 0, Z, Z)).answers(0, StableFoundry::enter);
        given(2).and(f -> f.head(0, 9, 0)).answers(0, StableFoundry::enter);
        given(2).and(f -> f.head(0, -1, -4)).and(f -> f.body(0, -4, -1, false)).answers(0, StableFoundry::enter);
        given(2).and(f -> f.head(0, -1, -4)).and(f -> f.body(0, -4, 20, false))
                .refuses(ARGUMENT, StableFoundry::enter);
    }

    @Sentence(promise = 13, value = "Throws `IllegalArgumentException` if it is not safe, or a choice without atoms")
    void enter_aChoiceWithoutAtoms() {
        Given choice = given(0).and(f -> f.choice(0, 0));
        choice.refuses(ARGUMENT, StableFoundry::enter);
        choice.and(f -> add(f, BODY, 1)).refuses(ARGUMENT, StableFoundry::enter);
        choice.and(f -> f.head(0, 0, 0)).answers(0, StableFoundry::enter);
    }

    @Sentence(promise = 13, value = "Throws `IllegalStateException` if there are 20 rules, or there would be more than 12 atoms or 60 instances")
    void enter_the20thRule_isLetIn_theNextRefused() {
        Given full = given(0).and(f -> enterWeak(f, 19));
        full.answers(19, StableFoundry::enter);
        full.and(StableFoundry::enter).refuses(STATE, StableFoundry::enter);
        Given draft = full.and(StableFoundry::enter).and(f -> f.body(0, 0, 0, false)).and(f -> f.head(0, 0, 0));
        draft.refuses(STATE, StableFoundry::enter);
    }

    @Sentence(promise = 13, value = "Throws `IllegalStateException` if there are 20 rules, or there would be more than 12 atoms or 60 instances")
    void enter_the12thAtom_isLetIn_the13thRefused() {
        Given ten = given(1, 1).and(f -> freeRow(f, 0, 0, 9)).and(f -> f.head(1, -1, 0));
        ten.and(f -> f.interval(0, 0, 1)).answers("1 1212", f -> f.enter() + " " + f.ground());
        ten.and(f -> f.interval(0, 0, 2)).refuses(STATE, StableFoundry::enter);
        ten.and(f -> f.interval(0, 0, 9)).refuses(STATE, StableFoundry::enter);
        Given twelve = ten.and(f -> f.interval(0, 0, 1)).and(StableFoundry::enter);
        twelve.and(f -> f.head(1, 1, 0)).answers("2 1213", f -> f.enter() + " " + f.ground());
        twelve.and(f -> f.head(1, 2, 0)).refuses(STATE, StableFoundry::enter);
    }

    @Sentence(promise = 13, value = "Throws `IllegalStateException` if there are 20 rules, or there would be more than 12 atoms or 60 instances")
    void enter_the13thAtom_withinAHead() {
        Given eleven = given(1, 1).and(f -> freeRow(f, 0, 0, 9)).and(f -> fact(f, 1, 0, 0)).and(f -> f.head(1, 1, 0));
        eleven.answers("2 1212", f -> f.enter() + " " + f.ground());
        eleven.and(f -> f.head(1, 2, 0)).refuses(STATE, StableFoundry::enter);
        eleven.and(f -> f.head(1, 2, 0)).and(f -> f.choice(0, 1)).refuses(STATE, StableFoundry::enter);
        eleven.and(f -> f.head(1, 1, 0)).answers("2 1212", f -> f.enter() + " " + f.ground());
    }

    /** From each constant of the predicate 0 the next one, so that 0 brings 10 atoms. */
    private static void chain(StableFoundry f) {
        f.head(0, 20, 0);
        f.body(0, -1, 0, false);
        f.enter();
    }

    @Sentence(promise = 13, value = "Throws `IllegalStateException` if there are 20 rules, or there would be more than 12 atoms or 60 instances")
    void enter_tooManyAtoms_byWhatOtherRulesBring() {
        Given two = given(1, 1).and(BoundaryRulesTest::chain).and(f -> freeRow(f, 1, 0, 1));
        two.and(f -> f.head(0, 0, 0)).answers("2 1212", f -> f.enter() + " " + f.ground());
        Given three = given(1, 1).and(BoundaryRulesTest::chain).and(f -> freeRow(f, 1, 0, 2));
        three.and(f -> f.head(0, 0, 0)).refuses(STATE, StableFoundry::enter);
        three.and(f -> f.head(0, 1, 0)).answers("2 1212", f -> f.enter() + " " + f.ground());
    }

    @Sentence(promise = 13, value = "Throws `IllegalStateException` if there are 20 rules, or there would be more than 12 atoms or 60 instances")
    void enter_the60thInstance_isLetIn_the61stRefused() {
        Given none = given(0).and(f -> draftTimes(f, 6, 10));
        none.answers("0 60", f -> f.enter() + " " + f.ground());
        Given one = given(0).and(f -> weakOf(f, 1, 0));
        one.and(f -> draftTimes(f, 6, 10)).refuses(STATE, StableFoundry::enter);
        one.and(f -> draftTimes(f, 10, 10)).refuses(STATE, StableFoundry::enter);
        Given full = none.and(StableFoundry::enter);
        full.refuses(STATE, StableFoundry::enter);
        full.and(f -> f.head(0, 0, 0)).refuses(STATE, StableFoundry::enter);
        full.and(f -> f.body(0, 0, 0, false)).answers("1 60", f -> f.enter() + " " + f.ground());
        full.and(f -> f.compare(1, 0, 0)).answers("1 60", f -> f.enter() + " " + f.ground());
    }

    @Sentence(promise = 13, value = "Throws `IllegalStateException` if there are 20 rules, or there would be more than 12 atoms or 60 instances")
    void enter_tooManyInstances_byWhatOtherRulesBring() {
        Given waiting = given(0).and(f -> f.body(0, 0, 0, false)).and(f -> draftTimes(f, 7, 8))
                .and(StableFoundry::enter);
        waiting.answers(0, StableFoundry::ground);
        Given three = waiting.and(f -> enterWeak(f, 3)).and(f -> f.head(0, 0, 0));
        three.answers("4 160", f -> f.enter() + " " + f.ground());
        Given four = waiting.and(f -> enterWeak(f, 4)).and(f -> f.head(0, 0, 0));
        four.refuses(STATE, StableFoundry::enter);
    }

    @Sentence(promise = 13, value = "Throws `IllegalStateException` if there are 20 rules, or there would be more than 12 atoms or 60 instances")
    void enter_refusedDraft_isLeft_andCanBeMadeFit() {
        given(0).and(f -> weakOf(f, 1, 0)).and(f -> draftTimes(f, 6, 10)).and(f -> told(f, StableFoundry::enter))
                .and(f -> f.interval(1, 0, 8)).answers("1 55", f -> f.enter() + " " + f.ground());
        given(1).and(f -> f.head(0, -1, 0)).and(f -> told(f, StableFoundry::enter)).and(f -> f.interval(0, 4, 4))
                .answers("0 101 4000", f -> f.enter() + " " + f.ground() + " " + f.instance(0));
    }

    @Sentence("If several apply, IndexOutOfBoundsException goes first, then IllegalArgumentException.")
    void enter_notSafe_whereThereAre20Rules_isAnIllegalArgument() {
        Given full = given(1).and(f -> enterWeak(f, 20));
        full.and(f -> f.head(0, -1, 0)).refuses(ARGUMENT, StableFoundry::enter);
        full.and(f -> f.choice(0, 1)).refuses(ARGUMENT, StableFoundry::enter);
        full.and(f -> f.weak(0, 1)).refuses(STATE, StableFoundry::enter);
    }

    @Sentence("If several apply, IndexOutOfBoundsException goes first, then IllegalArgumentException.")
    void enter_notSafe_whereThereWouldBeTooMany_isAnIllegalArgument() {
        Given full = given(1).and(f -> draftTimes(f, 6, 10)).and(StableFoundry::enter);
        full.and(f -> f.head(0, -3, 0)).refuses(ARGUMENT, StableFoundry::enter);
        full.and(f -> f.choice(0, 0)).refuses(ARGUMENT, StableFoundry::enter);
    }
}
