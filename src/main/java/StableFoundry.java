/** A foundry of answer sets: rules are grounded as they are entered, and the stable sets of atoms are told. */
public final class StableFoundry {
    public static final int NONE = -1;

    private static final int PREDICATES = 6;
    private static final int RULES = 20;
    private static final int ATOMS = 12;
    private static final int SETS = 4096;
    private static final int INSTANCES = 60;
    private static final int VARIABLES = 4;
    private static final int CONSTANTS = 10;
    private static final int NUMBERS = 4;
    private static final int LEVELS = 3;
    private static final int PREFERENCES = 6;
    private static final int ASSUMPTIONS = 8;
    private static final int FARTHEST = 100;
    private static final int NO_INSTANCE = -2;

    private static final int Z = -5;
    private static final int LAST_VARIABLE = -4;
    private static final int RAISED = 20;

    private static final int PLAIN = 0;
    private static final int CHOICE = 1;
    private static final int WEAK = 2;
    private static final int DIFFERENCE = 3;

    private static final int FALSE = 0;
    private static final int TRUE = 1;
    private static final int FREE = 2;

    private static final int CHOSEN = 2;
    private static final int BEST = 1;

    private final int[] places = new int[PREDICATES];
    private int predicates;
    private final Rule[] rules = new Rule[RULES];
    private int ruleCount;
    private Rule draft = new Rule();
    private final Grounding ground = new Grounding();
    private final Grounding again = new Grounding();
    private final Externals externals = new Externals();
    private final Preferences preferences = new Preferences();
    private final Program program = new Program();
    private final Differences differences = new Differences();
    private final Stability stability = new Stability(program, externals, differences);
    private final Found found = new Found();
    private boolean isSearched;
    private boolean isRanked;
    private int cheapest = NONE;

    public StableFoundry() {
    }

    // ---- rules

    public int predicate(int places) throws IllegalArgumentException, IllegalStateException {
        if (places < 0 || places > 2) {
            throw new IllegalArgumentException("places are 0 to 2");
        }
        if (predicates >= PREDICATES) {
            throw new IllegalStateException("there are 6 predicates");
        }
        this.places[predicates] = places;
        predicates++;
        return predicates - 1;
    }

    public int head(int predicate, int first, int second)
            throws IndexOutOfBoundsException, IllegalArgumentException, IllegalStateException {
        checkTerms(predicate, first, second, LAST_VARIABLE);
        if (draft.head.kind == WEAK || draft.head.kind == DIFFERENCE) {
            throw new IllegalStateException("the head has no atoms");
        }
        return addTo(draft.head.atoms, predicate, first, second);
    }

    public void choice(int least, int greatest) throws IllegalArgumentException, IllegalStateException {
        if (least < 0 || least > 3 || greatest < least || greatest > 3) {
            throw new IllegalArgumentException("a choice is of 0 to 3");
        }
        if (draft.head.kind != PLAIN) {
            throw new IllegalStateException("the head can be no choice");
        }
        draft.head.kind = CHOICE;
        draft.head.least = least;
        draft.head.greatest = greatest;
    }

    public void weak(int weight, int level) throws IndexOutOfBoundsException, IllegalStateException {
        checkLevel(level);
        checkHeadIsEmpty();
        draft.head.kind = WEAK;
        draft.head.weight = weight;
        draft.head.level = level;
    }

    public void difference(int x, int y, int c)
            throws IndexOutOfBoundsException, IllegalArgumentException, IllegalStateException {
        checkNumber(x);
        checkNumber(y);
        if (x == y || c < -FARTHEST || c > FARTHEST) {
            throw new IllegalArgumentException("a difference is of two numbers, -100 to 100");
        }
        checkHeadIsEmpty();
        draft.head.kind = DIFFERENCE;
        draft.head.x = x;
        draft.head.y = y;
        draft.head.bound = c;
    }

    public int body(int predicate, int first, int second, boolean isNot)
            throws IndexOutOfBoundsException, IllegalArgumentException, IllegalStateException {
        checkTerms(predicate, first, second, LAST_VARIABLE);
        return addTo(isNot ? draft.bans : draft.needs, predicate, first, second);
    }

    public int compare(int kind, int first, int second) throws IllegalArgumentException, IllegalStateException {
        if (kind < 0 || kind > 3 || !isTerm(first, LAST_VARIABLE) || !isTerm(second, LAST_VARIABLE)) {
            throw new IllegalArgumentException("a comparison is of kind 0 to 3, of two terms");
        }
        return addTo(draft.comparisons, kind, first, second);
    }

    public void interval(int variable, int from, int to) throws IllegalArgumentException {
        if (variable < 0 || variable >= VARIABLES || from < 0 || to < from || to >= CONSTANTS) {
            throw new IllegalArgumentException("an interval is of a variable, within 0 to 9");
        }
        draft.limit(variable, from, to);
    }

    public void sum(int least, int greatest) throws IllegalArgumentException, IllegalStateException {
        if (greatest < least) {
            throw new IllegalArgumentException("the greatest is less than the least");
        }
        if (draft.sum.isBegun) {
            throw new IllegalStateException("the draft has a sum");
        }
        draft.sum.isBegun = true;
        draft.sum.least = least;
        draft.sum.greatest = greatest;
    }

    public int element(int weight, int predicate, int first, int second)
            throws IndexOutOfBoundsException, IllegalArgumentException, IllegalStateException {
        checkTerms(predicate, first, second, Z);
        if (!draft.sum.isBegun || draft.sum.elements.isFull()) {
            throw new IllegalStateException("there is no sum, or it has 4 elements");
        }
        draft.sum.addElement(weight, predicate, first, second);
        return draft.sum.elements.count;
    }

    public void drop() {
        draft.clear();
    }

    public int enter() throws IllegalArgumentException, IllegalStateException {
        draft.lookThrough();
        if (!draft.isSafe() || draft.head.kind == CHOICE && draft.head.atoms.count == 0) {
            throw new IllegalArgumentException("the draft is not safe, or a choice without atoms");
        }
        if (!groundDraft()) {
            throw new IllegalStateException("there are too many rules, atoms or instances");
        }
        draft = new Rule();
        resolve();
        return ruleCount - 1;
    }

    // ---- atoms, externals and preferences

    public int external(int predicate, int first, int second)
            throws IndexOutOfBoundsException, IllegalArgumentException, IllegalStateException {
        checkTerms(predicate, first, second, 0);
        int code = Entries.groundCode(predicate, first, second);
        if (ground.numberOf(code) == NONE) {
            if (!groundExternal(code)) {
                throw new IllegalStateException("there are too many atoms or instances");
            }
            resolve();
        }
        int number = ground.numberOf(code);
        externals.add(number);
        return number;
    }

    public int assign(int atom, int how)
            throws IndexOutOfBoundsException, IllegalArgumentException, IllegalStateException {
        checkAtom(atom);
        if (how < FALSE || how > FREE) {
            throw new IllegalArgumentException("an external is false (0), true (1) or free (2)");
        }
        if (!externals.has(atom)) {
            throw new IllegalStateException("the atom is no external");
        }
        int before = externals.stateOf(atom);
        externals.let(atom, how);
        isSearched = false;
        return before;
    }

    public int prefer(int atom, int other)
            throws IndexOutOfBoundsException, IllegalArgumentException, IllegalStateException {
        checkAtom(atom);
        checkAtom(other);
        if (atom == other) {
            throw new IllegalArgumentException("a preference is of two atoms");
        }
        if (preferences.isFull()) {
            throw new IllegalStateException("there are 6 preferences");
        }
        preferences.add(atom, other);
        return preferences.count;
    }

    public int atom(int predicate, int first, int second)
            throws IndexOutOfBoundsException, IllegalArgumentException {
        checkTerms(predicate, first, second, 0);
        return ground.numberOf(Entries.groundCode(predicate, first, second));
    }

    public int ground() {
        return ground.size();
    }

    public int groundAnew() {
        again.cutTo(0, 0);
        for (int atom = 0; atom < ground.atomCount; atom++) {
            if (externals.has(atom)) {
                again.admit(ground.atomAt(atom));
            }
        }
        again.settle(rules, ruleCount);
        return again.size();
    }

    public int instance(int instance) throws IndexOutOfBoundsException {
        if (instance < 0 || instance >= ground.instanceCount) {
            throw new IndexOutOfBoundsException("no such instance");
        }
        return ground.instanceAt(instance);
    }

    // ---- answers

    public int answers() {
        search();
        return found.count;
    }

    public int answersAnew() {
        isSearched = false;
        search();
        return found.count;
    }

    public int answer(int answer) throws IndexOutOfBoundsException {
        return setOf(answer);
    }

    public int assuming(int are, int areNot) throws IllegalArgumentException {
        checkSet(are);
        checkSet(areNot);
        search();
        int count = 0;
        for (int set = 0; set < program.sets(); set++) {
            if (found.has(set) && meets(set, are, areNot)) {
                count++;
            }
        }
        return count;
    }

    public int conflict(int are, int areNot) throws IllegalArgumentException {
        checkSet(are);
        checkSet(areNot);
        if (Integer.bitCount(are) + Integer.bitCount(areNot) > ASSUMPTIONS) {
            throw new IllegalArgumentException("there are more than 8 assumptions");
        }
        search();
        int assumptions = are + SETS * areNot;
        return canMeet(assumptions) ? NONE : leastConflict(assumptions);
    }

    public long cost(int answer, int level) throws IndexOutOfBoundsException {
        int set = setOf(answer);
        checkLevel(level);
        return program.costOf(set, level);
    }

    public int rank(int answer) throws IndexOutOfBoundsException {
        int set = setOf(answer);
        findCheapest();
        if (compareCosts(set, cheapest) != 0) {
            return 0;
        }
        for (int other = 0; other < program.sets(); other++) {
            if (found.has(other) && preferences.prefers(other, set) && compareCosts(other, cheapest) == 0) {
                return BEST;
            }
        }
        return CHOSEN;
    }

    public int projected(int shown) throws IllegalArgumentException {
        checkSet(shown);
        search();
        return found.countSeenThrough(shown);
    }

    public int brave() {
        search();
        int some = 0;
        for (int set = 0; set < program.sets(); set++) {
            if (found.has(set)) {
                some |= set;
            }
        }
        return some;
    }

    public int cautious() {
        search();
        int all = program.sets() - 1;
        for (int set = 0; set < program.sets(); set++) {
            if (found.has(set)) {
                all &= set;
            }
        }
        return all;
    }

    public int value(int answer, int number) throws IndexOutOfBoundsException {
        int set = setOf(answer);
        checkNumber(number);
        differences.canHold(program, program.heldIn(set));
        return differences.greatestOf(number);
    }

    // ---- reasons

    public int support(int answer, int atom) throws IndexOutOfBoundsException {
        int set = setOf(answer);
        checkAtom(atom);
        if (!contains(set, atom)) {
            return NONE;
        }
        for (int instance = 0; instance < program.count; instance++) {
            if (program.supports(instance, set, atom)) {
                return instance;
            }
        }
        return NONE;
    }

    public int bar(int atom) throws IndexOutOfBoundsException {
        checkAtom(atom);
        if (contains(brave(), atom)) {
            return NONE;
        }
        long spared = 0;
        for (int set = 0; set < program.sets(); set++) {
            if (contains(set, atom)) {
                spared |= stability.sparedFor(set);
            }
        }
        return spared == 0 ? NO_INSTANCE : lowestIn(spared);
    }

    public int loop(int atom) throws IndexOutOfBoundsException {
        checkAtom(atom);
        int reached = program.reachedFrom(atom);
        if (!contains(reached, atom)) {
            return 0;
        }
        int all = 0;
        for (int other = 0; other < program.atoms; other++) {
            if (contains(reached, other) && contains(program.reachedFrom(other), atom)) {
                all |= 1 << other;
            }
        }
        return all;
    }

    public int unfounded(int within) throws IllegalArgumentException {
        checkSet(within);
        int union = 0;
        for (int part = 0; part < program.sets(); part++) {
            if ((part & ~within) == 0 && stability.isUnfounded(part, within)) {
                union |= part;
            }
        }
        return union;
    }

    // ---- checks of arguments

    private void checkTerms(int predicate, int first, int second, int lowest) {
        if (predicate < 0 || predicate >= predicates || predicate >= PREDICATES) {
            throw new IndexOutOfBoundsException("no such predicate");
        }
        if (!fits(places[predicate] > 0, first, lowest) || !fits(places[predicate] > 1, second, lowest)) {
            throw new IllegalArgumentException("a term is out of range");
        }
    }

    private static boolean fits(boolean isPlace, int term, int lowest) {
        return isPlace ? isTerm(term, lowest) : term == 0;
    }

    /** Where no variables are taken (the lowest is 0), a variable and 1 is no term either. */
    private static boolean isTerm(int term, int lowest) {
        return term >= lowest && term < CONSTANTS || lowest < 0 && term >= RAISED && term < RAISED + VARIABLES;
    }

    private static int addTo(Entries list, int number, int first, int second) {
        if (list.isFull()) {
            throw new IllegalStateException("there are 3");
        }
        list.add(number, first, second);
        return list.count;
    }

    private void checkHeadIsEmpty() {
        if (draft.head.kind != PLAIN || draft.head.atoms.count > 0) {
            throw new IllegalStateException("the draft has a head");
        }
    }

    private static void checkLevel(int level) {
        if (level < 0 || level >= LEVELS) {
            throw new IndexOutOfBoundsException("no such level");
        }
    }

    private static void checkNumber(int number) {
        if (number < 0 || number >= NUMBERS) {
            throw new IndexOutOfBoundsException("no such number");
        }
    }

    private void checkAtom(int atom) {
        if (atom < 0 || atom >= ground.atomCount) {
            throw new IndexOutOfBoundsException("no such atom");
        }
    }

    private void checkSet(int set) {
        if (set < 0 || set >= 1 << ground.atomCount) {
            throw new IllegalArgumentException("a bit is for no atom");
        }
    }

    private int setOf(int answer) {
        search();
        if (answer < 0 || answer >= found.count) {
            throw new IndexOutOfBoundsException("no such answer");
        }
        return found.setAt(answer);
    }

    // ---- grounding

    private boolean groundDraft() {
        if (ruleCount >= RULES) {
            return false;
        }
        int atoms = ground.atomCount;
        int instances = ground.instanceCount;
        rules[ruleCount] = draft;
        if (!ground.settle(rules, ruleCount + 1)) {
            rules[ruleCount] = null;
            ground.cutTo(atoms, instances);
            return false;
        }
        ruleCount++;
        return true;
    }

    private boolean groundExternal(int code) {
        int atoms = ground.atomCount;
        int instances = ground.instanceCount;
        if (!ground.admit(code) || !ground.settle(rules, ruleCount)) {
            ground.cutTo(atoms, instances);
            return false;
        }
        return true;
    }

    // ---- search

    /** All instances anew, the earlier ones too: an atom that none of them could have may be possible now. */
    private void resolve() {
        program.resolve(ground, rules);
        isSearched = false;
    }

    private void search() {
        if (!isSearched) {
            found.clear();
            cheapest = NONE;
            isRanked = false;
            for (int set = 0; set < program.sets(); set++) {
                if (stability.isAnswer(set)) {
                    found.add(set);
                }
            }
            isSearched = true;
        }
    }

    private static boolean meets(int set, int are, int areNot) {
        return (are & ~set) == 0 && (areNot & set) == 0;
    }

    private boolean canMeet(int assumptions) {
        for (int set = 0; set < program.sets(); set++) {
            if (found.has(set) && meets(set, assumptions & SETS - 1, assumptions >> ATOMS)) {
                return true;
            }
        }
        return false;
    }

    private int leastConflict(int assumptions) {
        int least = assumptions;
        int part = assumptions;
        for (int left = 1 << Integer.bitCount(assumptions); left > 1; left--) {
            part = part - 1 & assumptions;
            if (isLess(part, least) && !canMeet(part)) {
                least = part;
            }
        }
        return least;
    }

    private static boolean isLess(int part, int other) {
        int more = Integer.bitCount(part) - Integer.bitCount(other);
        return more < 0 || more == 0 && part < other;
    }

    private void findCheapest() {
        for (int set = 0; set < program.sets() && !isRanked; set++) {
            if (found.has(set) && (cheapest == NONE || compareCosts(set, cheapest) < 0)) {
                cheapest = set;
            }
        }
        isRanked = true;
    }

    private int compareCosts(int set, int other) {
        for (int level = LEVELS - 1; level >= 0; level--) {
            int order = Long.compare(program.costOf(set, level), program.costOf(other, level));
            if (order != 0) {
                return order;
            }
        }
        return 0;
    }

    private static boolean contains(int set, int atom) {
        return (set >> atom & 1) != 0;
    }

    private static boolean marks(long instances, int instance) {
        return (instances >> instance & 1) != 0;
    }

    private static boolean isOne(long instances) {
        return instances != 0 && (instances & instances - 1) == 0;
    }

    private static int lowestIn(long instances) {
        return Long.bitCount((instances & -instances) - 1);
    }

    /** A list of entries, each a number (a predicate, or the kind of a comparison) and two terms. */
    private static final class Entries {
        private final int[] codes = new int[4];
        private final int limit;
        private int count;

        Entries(int limit) {
            this.limit = limit;
        }

        boolean isFull() {
            return count >= limit || count >= codes.length;
        }

        void add(int number, int first, int second) {
            if (!isFull()) {
                codes[count] = number * 1024 + (first - Z) * 32 + second - Z;
                count++;
            }
        }

        void clear() {
            count = 0;
        }

        int codeAt(int entry) {
            return entry >= 0 && entry < count && entry < codes.length ? codes[entry] : 0;
        }

        static int groundCode(int predicate, int first, int second) {
            return predicate * 100 + first * 10 + second;
        }

        static int groundCodeOf(int code, int[] constants, int z) {
            return groundCode(numberIn(code), constantOf(firstIn(code), constants, z),
                    constantOf(secondIn(code), constants, z));
        }

        static int numberIn(int code) {
            return code >> 10;
        }

        static int firstIn(int code) {
            return (code >> 5 & 31) + Z;
        }

        static int secondIn(int code) {
            return (code & 31) + Z;
        }

        static boolean hasZ(int code) {
            return firstIn(code) == Z || secondIn(code) == Z;
        }

        static int variableIn(int term) {
            if (term >= LAST_VARIABLE && term < 0) {
                return -1 - term;
            }
            return term >= RAISED && term < RAISED + VARIABLES ? term - RAISED : NONE;
        }

        static int constantOf(int term, int[] constants, int z) {
            int variable = variableIn(term);
            if (variable < 0 || variable >= constants.length) {
                return term == Z ? z : term;
            }
            return term < 0 ? constants[variable] : constants[variable] + 1;
        }

        /** The variable whose constant is found last; 0 if there is none. */
        static int lastVariableOf(int code) {
            return Math.max(0, Math.max(variableIn(firstIn(code)), variableIn(secondIn(code))));
        }

        static boolean isTrue(int comparison, int[] constants) {
            int first = constantOf(firstIn(comparison), constants, 0);
            int second = constantOf(secondIn(comparison), constants, 0);
            switch (numberIn(comparison)) {
                case 0:
                    return first == second;
                case 1:
                    return first != second;
                case 2:
                    return first < second;
                default:
                    return first <= second;
            }
        }

        /** The variables, as bits, that stand in the terms alone or, if it is asked so, with 1 added. */
        int variables(boolean isRaised) {
            int variables = 0;
            for (int entry = 0; entry < count; entry++) {
                int code = codeAt(entry);
                variables |= variableBit(firstIn(code), isRaised) | variableBit(secondIn(code), isRaised);
            }
            return variables;
        }

        private static int variableBit(int term, boolean isRaised) {
            int variable = variableIn(term);
            return variable == NONE || term > 0 != isRaised ? 0 : 1 << variable;
        }
    }

    private static final class Head {
        private int kind = PLAIN;
        private final Entries atoms = new Entries(3);
        private int least;
        private int greatest;
        private int weight;
        private int level;
        private int x;
        private int y;
        private int bound;

        void clear() {
            kind = PLAIN;
            atoms.clear();
        }
    }

    private static final class Sum {
        private boolean isBegun;
        private int least;
        private int greatest;
        private final Entries elements = new Entries(4);
        private final int[] weights = new int[4];

        void clear() {
            isBegun = false;
            elements.clear();
        }

        void addElement(int weight, int predicate, int first, int second) {
            if (elements.count < weights.length) {
                weights[elements.count] = weight;
                elements.add(predicate, first, second);
            }
        }

        int weightAt(int element) {
            return element >= 0 && element < weights.length ? weights[element] : 0;
        }
    }

    private static final class Rule {
        private final Head head = new Head();
        private final Entries needs = new Entries(3);
        private final Entries bans = new Entries(3);
        private final Entries comparisons = new Entries(3);
        private final Sum sum = new Sum();
        private final int[] from = new int[VARIABLES];
        private final int[] to = new int[VARIABLES];
        private int limited;
        private int variables;
        private int raised;

        void clear() {
            head.clear();
            needs.clear();
            bans.clear();
            comparisons.clear();
            sum.clear();
            limited = 0;
        }

        void limit(int variable, int least, int greatest) {
            if (variable >= 0 && variable < VARIABLES) {
                from[variable] = least;
                to[variable] = greatest;
                limited |= 1 << variable;
            }
        }

        void lookThrough() {
            raised = variablesOf(true);
            variables = raised | variablesOf(false);
        }

        private int variablesOf(boolean isRaised) {
            return head.atoms.variables(isRaised) | needs.variables(isRaised) | bans.variables(isRaised)
                    | comparisons.variables(isRaised) | sum.elements.variables(isRaised);
        }

        boolean isSafe() {
            return (variables & ~limited & ~needs.variables(false)) == 0;
        }

        int lowest(int variable) {
            return isLimited(variable) ? from[variable] : 0;
        }

        /** What is no variable of the rule is 0 alone; one that is raised stays below 9, lest it be 10. */
        int highest(int variable) {
            if (!contains(variables, variable)) {
                return 0;
            }
            int highest = isLimited(variable) ? to[variable] : CONSTANTS - 1;
            return contains(raised, variable) ? Math.min(highest, CONSTANTS - 2) : highest;
        }

        private boolean isLimited(int variable) {
            return variable >= 0 && variable < VARIABLES && contains(variables & limited, variable);
        }
    }

    /** The possible atoms and the instances, by their numbers. */
    private static final class Grounding {
        private final int[] atoms = new int[ATOMS];
        private int atomCount;
        private final int[] instances = new int[INSTANCES];
        private int instanceCount;
        private final int[] constants = new int[VARIABLES];
        private boolean isOverfull;

        int size() {
            return instanceCount + 100 * atomCount;
        }

        void cutTo(int atomsLeft, int instancesLeft) {
            atomCount = atomsLeft;
            instanceCount = instancesLeft;
        }

        int atomAt(int atom) {
            return atom >= 0 && atom < atomCount && atom < ATOMS ? atoms[atom] : NONE;
        }

        int instanceAt(int instance) {
            return instance >= 0 && instance < instanceCount && instance < INSTANCES ? instances[instance] : NONE;
        }

        int numberOf(int code) {
            for (int atom = 0; atom < atomCount; atom++) {
                if (atomAt(atom) == code) {
                    return atom;
                }
            }
            return NONE;
        }

        boolean admit(int code) {
            if (numberOf(code) != NONE) {
                return true;
            }
            if (atomCount >= ATOMS) {
                return false;
            }
            atoms[atomCount] = code;
            atomCount++;
            return true;
        }

        /** Every round but the last finds an instance, so that there are no more rounds than instances and 2. */
        boolean settle(Rule[] rules, int upTo) {
            isOverfull = false;
            int before = NONE;
            for (int round = 0; round < INSTANCES + 2 && before != instanceCount && !isOverfull; round++) {
                before = instanceCount;
                for (int number = 0; number < upTo && number < rules.length && !isOverfull; number++) {
                    Rule rule = rules[number];
                    if (rule != null) {
                        bind(rule, number, 0);
                    }
                }
            }
            return !isOverfull;
        }

        /** What a constant rules out is passed over with all that would come below it. */
        private void bind(Rule rule, int number, int variable) {
            if (variable >= VARIABLES) {
                addInstance(rule, number);
                return;
            }
            int highest = rule.highest(variable);
            for (int constant = rule.lowest(variable); constant <= highest && !isOverfull; constant++) {
                constants[variable] = constant;
                if (canBe(rule, variable)) {
                    bind(rule, number, variable + 1);
                }
            }
        }

        private boolean canBe(Rule rule, int variable) {
            for (int entry = 0; entry < rule.comparisons.count; entry++) {
                int code = rule.comparisons.codeAt(entry);
                if (Entries.lastVariableOf(code) == variable && !Entries.isTrue(code, constants)) {
                    return false;
                }
            }
            for (int entry = 0; entry < rule.needs.count; entry++) {
                int code = rule.needs.codeAt(entry);
                if (Entries.lastVariableOf(code) == variable
                        && numberOf(Entries.groundCodeOf(code, constants, 0)) == NONE) {
                    return false;
                }
            }
            return true;
        }

        private void addInstance(Rule rule, int number) {
            int told = number;
            for (int variable = 0; variable < VARIABLES; variable++) {
                told = told * 10 + constants[variable];
            }
            if (isKnown(told)) {
                return;
            }
            if (instanceCount >= INSTANCES) {
                isOverfull = true;
                return;
            }
            instances[instanceCount] = told;
            instanceCount++;
            for (int entry = 0; entry < rule.head.atoms.count; entry++) {
                if (!admit(Entries.groundCodeOf(rule.head.atoms.codeAt(entry), constants, 0))) {
                    isOverfull = true;
                }
            }
        }

        private boolean isKnown(int told) {
            for (int instance = 0; instance < instanceCount; instance++) {
                if (instanceAt(instance) == told) {
                    return true;
                }
            }
            return false;
        }
    }

    /** The externals, and those of them that are true or free, as sets of atoms. */
    private static final class Externals {
        private int all;
        private int areTrue;
        private int areFree;

        boolean has(int atom) {
            return contains(all, atom);
        }

        void add(int atom) {
            all |= 1 << atom;
        }

        int stateOf(int atom) {
            if (contains(areTrue, atom)) {
                return TRUE;
            }
            return contains(areFree, atom) ? FREE : FALSE;
        }

        void let(int atom, int how) {
            int bit = 1 << atom;
            areTrue = how == TRUE ? areTrue | bit : areTrue & ~bit;
            areFree = how == FREE ? areFree | bit : areFree & ~bit;
        }

        int neededBy(int set) {
            return areTrue | areFree & set;
        }
    }

    private static final class Preferences {
        private final int[] firsts = new int[PREFERENCES];
        private final int[] seconds = new int[PREFERENCES];
        private int count;

        boolean isFull() {
            return count >= PREFERENCES;
        }

        void add(int first, int second) {
            if (!isFull()) {
                firsts[count] = first;
                seconds[count] = second;
                count++;
            }
        }

        boolean prefers(int set, int other) {
            return speaksFor(set, other) && !speaksFor(other, set);
        }

        private boolean speaksFor(int set, int other) {
            for (int i = 0; i < count && i < PREFERENCES; i++) {
                if (contains(set & ~other, firsts[i]) && contains(other & ~set, seconds[i])) {
                    return true;
                }
            }
            return false;
        }
    }

    /** The instances over sets of atoms: sets of instances are told as bits of a long, by their numbers. */
    private static final class Program {
        private final Rule[] ruleOf = new Rule[INSTANCES];
        private final int[] heads = new int[INSTANCES];
        private final int[] needs = new int[INSTANCES];
        private final int[] bans = new int[INSTANCES];
        private final long[] weights = new long[INSTANCES * ATOMS];
        private final long[] holding = new long[SETS];
        private final long[] lowHeads = new long[64];
        private final long[] highHeads = new long[64];
        private final long[] lowBars = new long[64];
        private final long[] highBars = new long[64];
        private final int[] constants = new int[VARIABLES];
        private int atoms;
        private int count;
        private long plain;
        private long choices;
        private long sums;
        private long weaks;
        private long differences;

        int sets() {
            return 1 << atoms;
        }

        long all() {
            return (1L << count) - 1;
        }

        void resolve(Grounding ground, Rule[] rules) {
            atoms = ground.atomCount;
            count = 0;
            plain = 0;
            choices = 0;
            sums = 0;
            weaks = 0;
            differences = 0;
            for (int instance = 0; instance < ground.instanceCount && instance < INSTANCES; instance++) {
                int told = ground.instanceAt(instance);
                int number = told / 10000;
                Rule rule = number >= 0 && number < rules.length ? rules[number] : null;
                if (rule != null) {
                    readConstants(told);
                    resolveInstance(rule, ground);
                }
            }
            fillParts();
            fillHolding();
        }

        private void readConstants(int told) {
            int rest = told;
            for (int variable = VARIABLES - 1; variable >= 0; variable--) {
                constants[variable] = rest % 10;
                rest /= 10;
            }
        }

        private void resolveInstance(Rule rule, Grounding ground) {
            if (count >= INSTANCES) {
                return;
            }
            ruleOf[count] = rule;
            heads[count] = atomsOf(rule.head.atoms, ground);
            needs[count] = atomsOf(rule.needs, ground);
            bans[count] = atomsOf(rule.bans, ground);
            sort(rule, 1L << count);
            if (rule.sum.isBegun) {
                weigh(rule.sum, ground);
            }
            count++;
        }

        private void sort(Rule rule, long bit) {
            plain |= rule.head.kind == PLAIN ? bit : 0;
            choices |= rule.head.kind == CHOICE ? bit : 0;
            weaks |= rule.head.kind == WEAK ? bit : 0;
            differences |= rule.head.kind == DIFFERENCE ? bit : 0;
            sums |= rule.sum.isBegun ? bit : 0;
        }

        private int atomsOf(Entries list, Grounding ground) {
            int set = 0;
            for (int entry = 0; entry < list.count; entry++) {
                int atom = ground.numberOf(Entries.groundCodeOf(list.codeAt(entry), constants, 0));
                if (atom != NONE) {
                    set |= 1 << atom;
                }
            }
            return set;
        }

        private void weigh(Sum sum, Grounding ground) {
            for (int atom = 0; atom < ATOMS; atom++) {
                addWeight(atom, -weightOf(count, atom));
            }
            for (int element = 0; element < sum.elements.count; element++) {
                int code = sum.elements.codeAt(element);
                int last = Entries.hasZ(code) ? CONSTANTS - 1 : 0;
                for (int z = 0; z <= last; z++) {
                    addWeight(ground.numberOf(Entries.groundCodeOf(code, constants, z)), sum.weightAt(element));
                }
            }
        }

        private void addWeight(int atom, long weight) {
            int place = count * ATOMS + atom;
            if (atom >= 0 && place >= 0 && place < weights.length) {
                weights[place] += weight;
            }
        }

        private long weightOf(int instance, int atom) {
            int place = instance * ATOMS + atom;
            return place >= 0 && place < weights.length ? weights[place] : 0;
        }

        /** Sets are looked at in halves of 6 atoms, so that few rows tell of all of them. */
        private void fillParts() {
            for (int part = 0; part < 64; part++) {
                lowHeads[part] = 0;
                highHeads[part] = 0;
                lowBars[part] = 0;
                highBars[part] = 0;
                for (int instance = 0; instance < count && instance < INSTANCES; instance++) {
                    long bit = 1L << instance;
                    int barred = needs[instance] & ~part;
                    lowHeads[part] |= (heads[instance] & part) != 0 ? bit : 0;
                    highHeads[part] |= (heads[instance] >> 6 & part) != 0 ? bit : 0;
                    lowBars[part] |= (barred & 63 | bans[instance] & part) != 0 ? bit : 0;
                    highBars[part] |= (needs[instance] >> 6 & ~part | bans[instance] >> 6 & part) != 0 ? bit : 0;
                }
            }
        }

        private void fillHolding() {
            for (int set = 0; set < sets() && set < SETS; set++) {
                long held = all() & ~(lowBars[set & 63] | highBars[set >> 6 & 63]);
                holding[set] = held & ~brokenSums(held & sums, set);
            }
        }

        private long brokenSums(long asked, int set) {
            long broken = 0;
            for (int instance = 0; instance < count && asked != 0; instance++) {
                if (marks(asked, instance) && !sumHolds(instance, set)) {
                    broken |= 1L << instance;
                }
            }
            return broken;
        }

        private boolean sumHolds(int instance, int set) {
            Rule rule = ruleAt(instance);
            long total = 0;
            for (int atom = 0; atom < atoms; atom++) {
                if (contains(set, atom)) {
                    total += weightOf(instance, atom);
                }
            }
            return rule == null || total >= rule.sum.least && total <= rule.sum.greatest;
        }

        Rule ruleAt(int instance) {
            return instance >= 0 && instance < count && instance < INSTANCES ? ruleOf[instance] : null;
        }

        int headOf(int instance) {
            return instance >= 0 && instance < count && instance < INSTANCES ? heads[instance] : 0;
        }

        int needsOf(int instance) {
            return instance >= 0 && instance < count && instance < INSTANCES ? needs[instance] : 0;
        }

        long heldIn(int set) {
            return holding[set & SETS - 1];
        }

        long headedIn(int set) {
            return lowHeads[set & 63] | highHeads[set >> 6 & 63];
        }

        long unsatisfiedIn(int set) {
            long held = heldIn(set);
            long broken = held & plain & ~headedIn(set);
            long asked = held & choices;
            for (int instance = 0; instance < count && asked != 0; instance++) {
                if (marks(asked, instance) && !isWellChosen(instance, set)) {
                    broken |= 1L << instance;
                }
            }
            return broken;
        }

        private boolean isWellChosen(int instance, int set) {
            Rule rule = ruleAt(instance);
            int chosen = Integer.bitCount(headOf(instance) & set);
            return rule == null || chosen >= rule.head.least && chosen <= rule.head.greatest;
        }

        /** What is left by reducing by the set, and not satisfied by the smaller one within it. */
        long unsatisfiedIn(int smaller, int set) {
            long held = heldIn(smaller) & heldIn(set);
            return held & (plain & ~headedIn(smaller) | choices & headedIn(set & ~smaller));
        }

        long costOf(int set, int level) {
            long asked = heldIn(set) & weaks;
            long total = 0;
            for (int instance = 0; instance < count && asked != 0; instance++) {
                Rule rule = ruleAt(instance);
                if (rule != null && marks(asked, instance) && rule.head.level == level) {
                    total += rule.head.weight;
                }
            }
            return total;
        }

        boolean supports(int instance, int set, int atom) {
            int head = headOf(instance);
            return marks(heldIn(set), instance) && contains(head, atom)
                    && (marks(choices, instance) || (head & set & ~(1 << atom)) == 0);
        }

        /** Whether the instance keeps a set of its head atoms from being unfounded in another one. */
        boolean founds(int instance, int part, int within) {
            int head = headOf(instance);
            return (head & part) != 0 && marks(heldIn(within), instance) && (needsOf(instance) & part) == 0
                    && (marks(choices, instance) || (head & within & ~part) == 0);
        }

        int reachedFrom(int atom) {
            int reached = needsOfHeads(1 << atom);
            for (int step = 0; step < ATOMS; step++) {
                reached |= needsOfHeads(reached);
            }
            return reached;
        }

        private int needsOfHeads(int set) {
            int needed = 0;
            for (int instance = 0; instance < count; instance++) {
                if ((headOf(instance) & set) != 0) {
                    needed |= needsOf(instance);
                }
            }
            return needed;
        }
    }

    /** The numbers of which the differences tell. */
    private static final class Differences {
        private final int[] greatest = new int[NUMBERS];

        int greatestOf(int number) {
            return number >= 0 && number < NUMBERS ? greatest[number] : 0;
        }

        /** Numbers that still sink after as many rounds as there are numbers would sink for ever. */
        boolean canHold(Program program, long held) {
            for (int number = 0; number < NUMBERS; number++) {
                greatest[number] = 0;
            }
            long asked = held & program.differences;
            boolean sinks = asked != 0;
            for (int round = 0; round <= NUMBERS && sinks; round++) {
                sinks = false;
                for (int instance = 0; instance < program.count; instance++) {
                    Rule rule = program.ruleAt(instance);
                    if (rule != null && marks(asked, instance)) {
                        sinks |= lower(rule.head);
                    }
                }
            }
            return !sinks;
        }

        private boolean lower(Head head) {
            int most = greatestOf(head.y) + head.bound;
            if (head.x < 0 || head.x >= NUMBERS || greatest[head.x] <= most) {
                return false;
            }
            greatest[head.x] = most;
            return true;
        }
    }

    private static final class Stability {
        private final Program program;
        private final Externals externals;
        private final Differences differences;

        Stability(Program program, Externals externals, Differences differences) {
            this.program = program;
            this.externals = externals;
            this.differences = differences;
        }

        boolean isAnswer(int set) {
            return (externals.areTrue & ~set) == 0 && program.unsatisfiedIn(set) == 0 && isLeast(set)
                    && differences.canHold(program, program.heldIn(set));
        }

        private boolean isLeast(int set) {
            int needed = externals.neededBy(set);
            int smaller = set;
            for (int left = 1 << Integer.bitCount(set); left > 1; left--) {
                smaller = smaller - 1 & set;
                if ((needed & ~smaller) == 0 && program.unsatisfiedIn(smaller, set) == 0) {
                    return false;
                }
            }
            return true;
        }

        /** The instances, each of which could be spared alone for the set to be an answer. */
        long sparedFor(int set) {
            long broken = program.unsatisfiedIn(set);
            if ((externals.areTrue & ~set) != 0 || broken != 0 && !isOne(broken)) {
                return 0;
            }
            long spared = broken == 0 ? program.all() : broken;
            int needed = externals.neededBy(set);
            int smaller = set;
            for (int left = 1 << Integer.bitCount(set); left > 1 && spared != 0; left--) {
                smaller = smaller - 1 & set;
                if ((needed & ~smaller) == 0) {
                    spared &= hinderedWithout(program.unsatisfiedIn(smaller, set));
                }
            }
            return reconciledWithout(spared, program.heldIn(set));
        }

        /** A smaller set is hindered by these instances: without which single ones it still is. */
        private static long hinderedWithout(long hindering) {
            if (hindering == 0) {
                return 0;
            }
            return isOne(hindering) ? ~hindering : -1L;
        }

        /** Those of the instances without which the differences that hold can hold together. */
        private long reconciledWithout(long spared, long held) {
            if (spared == 0 || differences.canHold(program, held)) {
                return spared;
            }
            long left = 0;
            for (int instance = 0; instance < program.count; instance++) {
                long bit = 1L << instance;
                if ((spared & held & bit) != 0 && differences.canHold(program, held & ~bit)) {
                    left |= bit;
                }
            }
            return left;
        }

        boolean isUnfounded(int part, int within) {
            if (((externals.areTrue | externals.areFree) & part) != 0) {
                return false;
            }
            for (int instance = 0; instance < program.count; instance++) {
                if (program.founds(instance, part, within)) {
                    return false;
                }
            }
            return true;
        }
    }

    /** The answers: a bit for each set. */
    private static final class Found {
        private final long[] rows = new long[64];
        private final long[] seen = new long[64];
        private int count;

        void clear() {
            count = 0;
            for (int row = 0; row < 64; row++) {
                rows[row] = 0;
            }
        }

        boolean has(int set) {
            return (rows[set >> 6 & 63] >> (set & 63) & 1) != 0;
        }

        void add(int set) {
            rows[set >> 6 & 63] |= 1L << (set & 63);
            count++;
        }

        int setAt(int answer) {
            int before = answer;
            for (int set = 0; set < SETS; set++) {
                if (has(set)) {
                    if (before == 0) {
                        return set;
                    }
                    before--;
                }
            }
            return NONE;
        }

        int countSeenThrough(int shown) {
            for (int row = 0; row < 64; row++) {
                seen[row] = 0;
            }
            int different = 0;
            for (int set = 0; set < SETS; set++) {
                if (has(set)) {
                    int view = set & shown;
                    different += (seen[view >> 6 & 63] >> (view & 63) & 1) != 0 ? 0 : 1;
                    seen[view >> 6 & 63] |= 1L << (view & 63);
                }
            }
            return different;
        }
    }
}
