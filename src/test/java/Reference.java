import java.math.BigInteger;
import java.util.ArrayList;
import java.util.HashSet;
import java.util.List;
import java.util.Set;
import java.util.TreeMap;

/** The document word by word, as slow as it comes: what the program's answers are held against. */
final class Reference {
    record Pattern(int weight, int predicate, int first, int second) { }

    record Atom(int predicate, int first, int second) { }

    record Instance(Rule rule, int number, List<Integer> constants) { }

    static final class Rule {
        final List<Pattern> heads = new ArrayList<>();
        boolean isChoice;
        int least;
        int greatest;
        int[] weak;
        int[] difference;
        final List<Pattern> needs = new ArrayList<>();
        final List<Pattern> bans = new ArrayList<>();
        final List<Pattern> comparisons = new ArrayList<>();
        final TreeMap<Integer, int[]> intervals = new TreeMap<>();
        int[] sum;
        final List<Pattern> elements = new ArrayList<>();
        List<List<Integer>> constants;

        List<Pattern> all() {
            List<Pattern> all = new ArrayList<>(heads);
            all.addAll(needs);
            all.addAll(bans);
            all.addAll(comparisons);
            all.addAll(elements);
            return all;
        }

        boolean stands(int variable) {
            return standsAlone(all(), variable) || isRaised(variable);
        }

        boolean isRaised(int variable) {
            return all().stream().anyMatch(p -> p.first == 20 + variable || p.second == 20 + variable);
        }

        static boolean standsAlone(List<Pattern> list, int variable) {
            return list.stream().anyMatch(p -> p.first == -1 - variable || p.second == -1 - variable);
        }
    }

    private final List<Integer> places = new ArrayList<>();
    private final List<Rule> rules = new ArrayList<>();
    private Rule draft = new Rule();
    private List<Atom> atoms = new ArrayList<>();
    private List<Instance> instances = new ArrayList<>();
    private final TreeMap<Integer, Integer> externals = new TreeMap<>();
    private final List<int[]> preferences = new ArrayList<>();
    private List<Integer> known;

    int atomCount() {
        return atoms.size();
    }

    int instanceCount() {
        return instances.size();
    }

    private static void index(boolean isThere) {
        if (!isThere) {
            throw new IndexOutOfBoundsException("index");
        }
    }

    private static void argument(boolean isFine) {
        if (!isFine) {
            throw new IllegalArgumentException("argument");
        }
    }

    private static void state(boolean isFine) {
        if (!isFine) {
            throw new IllegalStateException("state");
        }
    }

    private static boolean isConstant(int term) {
        return 0 <= term && term <= 9;
    }

    private static boolean isTerm(int term) {
        return isConstant(term) || -4 <= term && term <= -1 || 20 <= term && term <= 23;
    }

    private void pattern(int predicate, int first, int second, boolean isZFine) {
        index(0 <= predicate && predicate < places.size());
        int count = places.get(predicate);
        argument(count < 1 ? first == 0 : isTerm(first) || isZFine && first == -5);
        argument(count < 2 ? second == 0 : isTerm(second) || isZFine && second == -5);
    }

    private void constants(int predicate, int first, int second) {
        index(0 <= predicate && predicate < places.size());
        int count = places.get(predicate);
        argument(count < 1 ? first == 0 : isConstant(first));
        argument(count < 2 ? second == 0 : isConstant(second));
    }

    private void set(int set) {
        argument(set >= 0 && set < 1 << atoms.size());
    }

    int predicate(int count) {
        argument(0 <= count && count <= 2);
        state(places.size() < 6);
        places.add(count);
        return places.size() - 1;
    }

    int head(int predicate, int first, int second) {
        pattern(predicate, first, second, false);
        state(draft.heads.size() < 3 && draft.weak == null && draft.difference == null);
        draft.heads.add(new Pattern(0, predicate, first, second));
        return draft.heads.size();
    }

    void choice(int least, int greatest) {
        argument(0 <= least && least <= greatest && greatest <= 3);
        state(!draft.isChoice && draft.weak == null && draft.difference == null);
        draft.isChoice = true;
        draft.least = least;
        draft.greatest = greatest;
    }

    private boolean hasHead() {
        return !draft.heads.isEmpty() || draft.isChoice || draft.weak != null || draft.difference != null;
    }

    void weak(int weight, int level) {
        index(0 <= level && level <= 2);
        state(!hasHead());
        draft.weak = new int[] {weight, level};
    }

    void difference(int x, int y, int c) {
        index(0 <= x && x <= 3 && 0 <= y && y <= 3);
        argument(x != y && -100 <= c && c <= 100);
        state(!hasHead());
        draft.difference = new int[] {x, y, c};
    }

    int body(int predicate, int first, int second, boolean isNot) {
        pattern(predicate, first, second, false);
        List<Pattern> sort = isNot ? draft.bans : draft.needs;
        state(sort.size() < 3);
        sort.add(new Pattern(0, predicate, first, second));
        return sort.size();
    }

    int compare(int kind, int first, int second) {
        argument(0 <= kind && kind <= 3 && isTerm(first) && isTerm(second));
        state(draft.comparisons.size() < 3);
        draft.comparisons.add(new Pattern(0, kind, first, second));
        return draft.comparisons.size();
    }

    void interval(int variable, int from, int to) {
        argument(0 <= variable && variable <= 3 && 0 <= from && from <= to && to <= 9);
        draft.intervals.put(variable, new int[] {from, to});
    }

    void sum(int least, int greatest) {
        argument(least <= greatest);
        state(draft.sum == null);
        draft.sum = new int[] {least, greatest};
    }

    int element(int weight, int predicate, int first, int second) {
        pattern(predicate, first, second, true);
        state(draft.sum != null && draft.elements.size() < 4);
        draft.elements.add(new Pattern(weight, predicate, first, second));
        return draft.elements.size();
    }

    void drop() {
        draft = new Rule();
    }

    int enter() {
        for (int variable = 0; variable < 4; variable++) {
            argument(!draft.stands(variable) || draft.intervals.containsKey(variable)
                    || Rule.standsAlone(draft.needs, variable));
        }
        argument(!draft.isChoice || !draft.heads.isEmpty());
        state(rules.size() < 20);
        draft.constants = constantsFor(draft);
        rules.add(draft);
        if (!grow(null)) {
            rules.remove(rules.size() - 1);
            state(false);
        }
        draft = new Rule();
        return rules.size() - 1;
    }

    int external(int predicate, int first, int second) {
        constants(predicate, first, second);
        Atom atom = new Atom(predicate, first, second);
        state(atoms.contains(atom) || grow(atom));
        externals.putIfAbsent(atoms.indexOf(atom), 0);
        return atoms.indexOf(atom);
    }

    /** Grounds on a copy, which is kept if it is not too large. */
    private boolean grow(Atom external) {
        List<Atom> newAtoms = new ArrayList<>(atoms);
        List<Instance> newInstances = new ArrayList<>(instances);
        if (external != null) {
            newAtoms.add(external);
        }
        if (!close(newAtoms, newInstances)) {
            return false;
        }
        atoms = newAtoms;
        instances = newInstances;
        known = null;
        return true;
    }

    private boolean close(List<Atom> atoms, List<Instance> instances) {
        boolean isNew = true;
        while (isNew) {
            isNew = false;
            for (int number = 0; number < rules.size(); number++) {
                Rule rule = rules.get(number);
                for (List<Integer> constants : rule.constants) {
                    Instance instance = new Instance(rule, number, constants);
                    if (!isInstance(instance, atoms) || instances.contains(instance)) {
                        continue;
                    }
                    isNew = true;
                    instances.add(instance);
                    for (Pattern head : rule.heads) {
                        Atom atom = atomOf(head, constants, 0);
                        if (!atoms.contains(atom)) {
                            atoms.add(atom);
                        }
                    }
                    if (atoms.size() > 12 || instances.size() > 60) {
                        return false;
                    }
                }
            }
        }
        return atoms.size() <= 12;
    }

    /** All constants for the variables of a rule that lie in the intervals and are not 9 with 1 added. */
    private static List<List<Integer>> constantsFor(Rule rule) {
        List<List<Integer>> all = List.of(List.of());
        for (int variable = 0; variable < 4; variable++) {
            boolean stands = rule.stands(variable);
            boolean isRaised = rule.isRaised(variable);
            int[] interval = rule.intervals.getOrDefault(variable, new int[] {0, 9});
            List<List<Integer>> longer = new ArrayList<>();
            for (List<Integer> before : all) {
                for (int constant = 0; constant < 10; constant++) {
                    boolean isIn = interval[0] <= constant && constant <= interval[1];
                    if (stands ? isIn && !(isRaised && constant == 9) : constant == 0) {
                        List<Integer> constants = new ArrayList<>(before);
                        constants.add(constant);
                        longer.add(constants);
                    }
                }
            }
            all = longer;
        }
        return all;
    }

    private static boolean isInstance(Instance instance, List<Atom> atoms) {
        Rule rule = instance.rule;
        for (Pattern comparison : rule.comparisons) {
            int first = constantOf(comparison.first, instance.constants, 0);
            int second = constantOf(comparison.second, instance.constants, 0);
            if (!switch (comparison.predicate) {
                case 0 -> first == second;
                case 1 -> first != second;
                case 2 -> first < second;
                default -> first <= second;
            }) {
                return false;
            }
        }
        return rule.needs.stream().allMatch(need -> atoms.contains(atomOf(need, instance.constants, 0)));
    }

    private static int constantOf(int term, List<Integer> constants, int z) {
        if (term == -5) {
            return z;
        }
        if (term < 0) {
            return constants.get(-1 - term);
        }
        return term >= 20 ? constants.get(term - 20) + 1 : term;
    }

    private static Atom atomOf(Pattern pattern, List<Integer> constants, int z) {
        return new Atom(pattern.predicate, constantOf(pattern.first, constants, z),
                constantOf(pattern.second, constants, z));
    }

    private void atomIs(int atom) {
        index(0 <= atom && atom < atoms.size());
    }

    int assign(int atom, int how) {
        atomIs(atom);
        argument(0 <= how && how <= 2);
        state(externals.containsKey(atom));
        known = null;
        return externals.put(atom, how);
    }

    int prefer(int atom, int other) {
        atomIs(atom);
        atomIs(other);
        argument(atom != other);
        state(preferences.size() < 6);
        preferences.add(new int[] {atom, other});
        return preferences.size();
    }

    int atom(int predicate, int first, int second) {
        constants(predicate, first, second);
        return atoms.indexOf(new Atom(predicate, first, second));
    }

    int ground() {
        return instances.size() + 100 * atoms.size();
    }

    int groundAnew() {
        List<Atom> newAtoms = new ArrayList<>();
        List<Instance> newInstances = new ArrayList<>();
        externals.keySet().forEach(atom -> newAtoms.add(atoms.get(atom)));
        close(newAtoms, newInstances);
        return newInstances.size() + 100 * newAtoms.size();
    }

    int instance(int number) {
        index(0 <= number && number < instances.size());
        Instance instance = instances.get(number);
        int told = instance.number;
        for (int constant : instance.constants) {
            told = told * 10 + constant;
        }
        return told;
    }

    private boolean isSo(Atom atom, int set) {
        int number = atoms.indexOf(atom);
        return number >= 0 && (set >> number & 1) == 1;
    }

    private boolean isSo(Pattern pattern, Instance instance, int set) {
        return isSo(atomOf(pattern, instance.constants, 0), set);
    }

    private boolean holds(Instance instance, int set) {
        Rule rule = instance.rule;
        for (Pattern need : rule.needs) {
            if (!isSo(need, instance, set)) {
                return false;
            }
        }
        for (Pattern ban : rule.bans) {
            if (isSo(ban, instance, set)) {
                return false;
            }
        }
        if (rule.sum == null) {
            return true;
        }
        BigInteger total = BigInteger.ZERO;
        for (Pattern element : rule.elements) {
            boolean hasZ = element.first == -5 || element.second == -5;
            for (int z = 0; z < (hasZ ? 10 : 1); z++) {
                if (isSo(atomOf(element, instance.constants, z), set)) {
                    total = total.add(BigInteger.valueOf(element.weight));
                }
            }
        }
        return total.compareTo(BigInteger.valueOf(rule.sum[0])) >= 0
                && total.compareTo(BigInteger.valueOf(rule.sum[1])) <= 0;
    }

    private Set<Atom> headOf(Instance instance) {
        Set<Atom> head = new HashSet<>();
        instance.rule.heads.forEach(pattern -> head.add(atomOf(pattern, instance.constants, 0)));
        return head;
    }

    private boolean satisfies(int set, Instance instance) {
        if (!holds(instance, set) || instance.rule.weak != null || instance.rule.difference != null) {
            return true;
        }
        long so = headOf(instance).stream().filter(atom -> isSo(atom, set)).count();
        if (instance.rule.isChoice) {
            return instance.rule.least <= so && so <= instance.rule.greatest;
        }
        return so > 0;
    }

    /** Whether the smaller set satisfies what is left by reducing by the set. */
    private boolean satisfiesRest(int smaller, int set, List<Instance> left) {
        for (int atom : externals.keySet()) {
            boolean isDue = externals.get(atom) == 1 || externals.get(atom) == 2 && (set >> atom & 1) == 1;
            if (isDue && (smaller >> atom & 1) == 0) {
                return false;
            }
        }
        for (Instance instance : left) {
            if (instance.rule.isChoice) {
                if (holds(instance, smaller)) {
                    for (Atom atom : headOf(instance)) {
                        if (isSo(atom, set) && !isSo(atom, smaller)) {
                            return false;
                        }
                    }
                }
            } else if (!satisfies(smaller, instance)) {
                return false;
            }
        }
        return true;
    }

    private boolean isStable(int set, List<Instance> program) {
        for (int atom : externals.keySet()) {
            if (externals.get(atom) == 1 && (set >> atom & 1) == 0) {
                return false;
            }
        }
        for (Instance instance : program) {
            if (!satisfies(set, instance)) {
                return false;
            }
        }
        List<Instance> left = new ArrayList<>();
        for (Instance instance : program) {
            if (holds(instance, set)) {
                left.add(instance);
            }
        }
        for (int smaller = 0; smaller < set; smaller++) {
            if ((smaller & ~set) == 0 && satisfiesRest(smaller, set, left)) {
                return false;
            }
        }
        return true;
    }

    /** The numbers by shortest ways over all, from a fifth one that is 0; nothing if they can't hold together. */
    private int[] numbers(int set, List<Instance> program) {
        long[][] most = new long[5][5];
        for (int x = 0; x < 5; x++) {
            for (int y = 0; y < 5; y++) {
                most[x][y] = x == y || y == 4 ? 0 : 1_000_000;
            }
        }
        for (Instance instance : program) {
            int[] difference = instance.rule.difference;
            if (difference != null && holds(instance, set)) {
                most[difference[0]][difference[1]] = Math.min(most[difference[0]][difference[1]], difference[2]);
            }
        }
        for (int by = 0; by < 5; by++) {
            for (int x = 0; x < 5; x++) {
                for (int y = 0; y < 5; y++) {
                    most[x][y] = Math.min(most[x][y], most[x][by] + most[by][y]);
                }
            }
        }
        for (int x = 0; x < 5; x++) {
            if (most[x][x] < 0) {
                return null;
            }
        }
        return new int[] {(int) most[0][4], (int) most[1][4], (int) most[2][4], (int) most[3][4]};
    }

    private boolean isAnswer(int set, List<Instance> program) {
        return isStable(set, program) && numbers(set, program) != null;
    }

    private List<Integer> all() {
        if (known == null) {
            known = new ArrayList<>();
            for (int set = 0; set < 1 << atoms.size(); set++) {
                if (isAnswer(set, instances)) {
                    known.add(set);
                }
            }
        }
        return known;
    }

    int answers() {
        return all().size();
    }

    int answersAnew() {
        return all().size();
    }

    int answer(int answer) {
        index(0 <= answer && answer < all().size());
        return all().get(answer);
    }

    int assuming(int are, int areNot) {
        set(are);
        set(areNot);
        return (int) all().stream().filter(set -> (set & are) == are && (set & areNot) == 0).count();
    }

    int conflict(int are, int areNot) {
        set(are);
        set(areNot);
        argument(Integer.bitCount(are) + Integer.bitCount(areNot) <= 8);
        if (assuming(are, areNot) > 0) {
            return -1;
        }
        int best = are + 4096 * areNot;
        for (int no = 0; no <= areNot; no++) {
            for (int yes = 0; yes <= are; yes++) {
                if ((yes & ~are) != 0 || (no & ~areNot) != 0) {
                    continue;
                }
                int told = yes + 4096 * no;
                int more = Integer.bitCount(told) - Integer.bitCount(best);
                if ((more < 0 || more == 0 && told < best) && assuming(yes, no) == 0) {
                    best = told;
                }
            }
        }
        return best;
    }

    long cost(int answer, int level) {
        index(0 <= answer && answer < all().size() && 0 <= level && level <= 2);
        return costOf(all().get(answer), level).longValueExact();
    }

    private BigInteger costOf(int set, int level) {
        BigInteger cost = BigInteger.ZERO;
        for (Instance instance : instances) {
            int[] weak = instance.rule.weak;
            if (weak != null && weak[1] == level && holds(instance, set)) {
                cost = cost.add(BigInteger.valueOf(weak[0]));
            }
        }
        return cost;
    }

    private List<Integer> best() {
        List<Integer> best = all();
        for (int level = 2; level >= 0; level--) {
            int at = level;
            BigInteger least = best.stream().map(set -> costOf(set, at)).min(BigInteger::compareTo).orElseThrow();
            best = best.stream().filter(set -> costOf(set, at).equals(least)).toList();
        }
        return best;
    }

    private boolean speaks(int one, int other) {
        int alone = one & ~other;
        int otherAlone = other & ~one;
        return preferences.stream().anyMatch(p -> (alone >> p[0] & 1) == 1 && (otherAlone >> p[1] & 1) == 1);
    }

    int rank(int answer) {
        index(0 <= answer && answer < all().size());
        int set = all().get(answer);
        List<Integer> best = best();
        if (!best.contains(set)) {
            return 0;
        }
        return best.stream().anyMatch(other -> speaks(other, set) && !speaks(set, other)) ? 1 : 2;
    }

    int projected(int shown) {
        set(shown);
        return (int) all().stream().map(set -> set & shown).distinct().count();
    }

    int brave() {
        return all().stream().reduce(0, (a, b) -> a | b);
    }

    int cautious() {
        return all().stream().reduce((1 << atoms.size()) - 1, (a, b) -> a & b);
    }

    int value(int answer, int number) {
        index(0 <= answer && answer < all().size() && 0 <= number && number <= 3);
        return numbers(all().get(answer), instances)[number];
    }

    int support(int answer, int atom) {
        index(0 <= answer && answer < all().size());
        atomIs(atom);
        int set = all().get(answer);
        if ((set >> atom & 1) == 0) {
            return -1;
        }
        for (int number = 0; number < instances.size(); number++) {
            Instance instance = instances.get(number);
            Set<Atom> head = headOf(instance);
            if (head.remove(atoms.get(atom)) && holds(instance, set)
                    && (instance.rule.isChoice || head.stream().noneMatch(other -> isSo(other, set)))) {
                return number;
            }
        }
        return -1;
    }

    int bar(int atom) {
        atomIs(atom);
        if ((brave() >> atom & 1) == 1) {
            return -1;
        }
        for (int number = 0; number < instances.size(); number++) {
            List<Instance> others = new ArrayList<>(instances);
            others.remove(number);
            for (int set = 0; set < 1 << atoms.size(); set++) {
                if ((set >> atom & 1) == 1 && isAnswer(set, others)) {
                    return number;
                }
            }
        }
        return -2;
    }

    int loop(int atom) {
        atomIs(atom);
        int count = atoms.size();
        boolean[][] hangs = new boolean[count][count];
        for (Instance instance : instances) {
            for (Atom head : headOf(instance)) {
                for (Pattern need : instance.rule.needs) {
                    hangs[atoms.indexOf(head)][atoms.indexOf(atomOf(need, instance.constants, 0))] = true;
                }
            }
        }
        for (int by = 0; by < count; by++) {
            for (int one = 0; one < count; one++) {
                for (int other = 0; other < count; other++) {
                    hangs[one][other] |= hangs[one][by] && hangs[by][other];
                }
            }
        }
        int loop = 0;
        for (int other = 0; other < count; other++) {
            if (hangs[atom][other] && hangs[other][atom]) {
                loop |= 1 << other;
            }
        }
        return loop;
    }

    int unfounded(int within) {
        set(within);
        int union = 0;
        for (int part = 0; part <= within; part++) {
            if ((part & ~within) == 0 && isUnfounded(part, within)) {
                union |= part;
            }
        }
        return union;
    }

    private boolean isUnfounded(int part, int within) {
        for (int atom : externals.keySet()) {
            if ((part >> atom & 1) == 1 && externals.get(atom) != 0) {
                return false;
            }
        }
        for (Instance instance : instances) {
            Set<Atom> head = headOf(instance);
            if (head.stream().noneMatch(atom -> isSo(atom, part)) || !holds(instance, within)) {
                continue;
            }
            boolean hangsOnIt = instance.rule.needs.stream().anyMatch(need -> isSo(need, instance, part));
            boolean isSoByAnother = !instance.rule.isChoice
                    && head.stream().anyMatch(atom -> isSo(atom, within) && !isSo(atom, part));
            if (!hangsOnIt && !isSoByAnother) {
                return false;
            }
        }
        return true;
    }
}
