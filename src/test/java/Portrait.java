import java.util.ArrayList;
import java.util.List;

/**
 * All that an object answers, in parts: each asks an object of its own, with far less than 512 calls. The first
 * parts ask what changes nothing; the others go on with the object, to see its draft and what it still has room for.
 */
final class Portrait {
    private static final int[] SETS = {0, 1, 2, 3, 5, 10, 85, 255, 1365, 4095};
    private static final List<Boundaries.Call> PARTS = all();

    private final StableFoundry foundry;
    private final StringBuilder told = new StringBuilder();

    private interface Look {
        void at(Portrait portrait);
    }

    private Portrait(StableFoundry foundry) {
        this.foundry = foundry;
    }

    static List<Boundaries.Call> parts() {
        return PARTS;
    }

    private static List<Boundaries.Call> all() {
        List<Boundaries.Call> parts = new ArrayList<>();
        for (Look look : List.<Look>of(Portrait::grounding, Portrait::answers, Portrait::sets, Portrait::reasons,
                Portrait::draft, Portrait::draftWithIntervals, Portrait::draftComparisons, Portrait::draftHead,
                Portrait::draftChoice, Portrait::draftWeak, Portrait::draftBody, Portrait::draftSum,
                Portrait::predicates, Portrait::externals, Portrait::moreExternals, Portrait::preferences,
                Portrait::rules)) {
            parts.add(part(look));
        }
        for (int predicate = 0; predicate <= 6; predicate++) {
            int number = predicate;
            parts.add(part(portrait -> portrait.atoms(number)));
        }
        return parts;
    }

    private static Boundaries.Call part(Look look) {
        return foundry -> {
            Portrait portrait = new Portrait(foundry);
            look.at(portrait);
            return portrait.told;
        };
    }

    private String ask(Boundaries.Call call) {
        String answer = Boundaries.told(foundry, call);
        told.append(answer).append(' ');
        return answer;
    }

    private void tell(Boundaries.Steps steps) {
        ask(Boundaries.doing(steps));
    }

    private void grounding() {
        ask(StableFoundry::ground);
        for (int instance = -1; instance <= 60; instance++) {
            int number = instance;
            ask(f -> f.instance(number));
        }
        ask(StableFoundry::groundAnew);
    }

    private void atoms(int predicate) {
        for (int first = 0; first < 10; first++) {
            for (int second = 0; second < 10; second++) {
                int one = first;
                int other = second;
                ask(f -> f.atom(predicate, one, other));
            }
        }
    }

    private void answers() {
        ask(StableFoundry::answers);
        ask(StableFoundry::brave);
        ask(StableFoundry::cautious);
        for (int answer = 0; answer < 12; answer++) {
            answer(answer);
        }
        answer(foundry.answers() - 1);
        ask(StableFoundry::answersAnew);
    }

    private void answer(int answer) {
        ask(f -> f.answer(answer));
        ask(f -> f.rank(answer));
        for (int level = 0; level < 3; level++) {
            int at = level;
            ask(f -> f.cost(answer, at));
        }
        for (int number = 0; number < 4; number++) {
            int one = number;
            ask(f -> f.value(answer, one));
        }
    }

    private void sets() {
        for (int set : SETS) {
            ask(f -> f.projected(set));
            ask(f -> f.unfounded(set));
            for (int other : SETS) {
                ask(f -> f.assuming(set, other));
                ask(f -> f.conflict(set, other));
            }
        }
    }

    private void reasons() {
        for (int atom = 0; atom <= 12; atom++) {
            int one = atom;
            ask(f -> f.bar(one));
            ask(f -> f.loop(one));
            for (int answer = 0; answer < 6; answer++) {
                int number = answer;
                ask(f -> f.support(number, one));
            }
        }
    }

    private void draft() {
        ask(StableFoundry::enter);
        grounding();
        answers();
    }

    private void draftWithIntervals() {
        for (int variable = 0; variable < 4; variable++) {
            int one = variable;
            tell(f -> f.interval(one, 8, 9));
        }
        draft();
    }

    /** Shows the intervals that the draft has: without one it can't be entered. */
    private void draftComparisons() {
        for (int variable = 0; variable < 4; variable++) {
            int term = -1 - variable;
            ask(f -> f.compare(2, term, 9));
        }
        draft();
    }

    private void draftHead() {
        for (int count = 0; count < 4; count++) {
            ask(f -> f.head(0, 0, 0));
        }
        tell(f -> f.choice(1, 1));
        draft();
    }

    private void draftChoice() {
        tell(f -> f.choice(0, 2));
        ask(f -> f.head(0, 0, 0));
        draft();
    }

    private void draftWeak() {
        tell(f -> f.weak(7, 1));
        draft();
        tell(f -> f.difference(0, 1, -7));
        draft();
    }

    private void draftBody() {
        for (int count = 0; count < 4; count++) {
            ask(f -> f.body(0, 0, 0, false));
            ask(f -> f.body(0, 0, 0, true));
            ask(f -> f.compare(0, 5, 5));
        }
        draft();
    }

    private void draftSum() {
        ask(f -> f.element(1, 0, 0, 0));
        tell(f -> f.sum(1, 2));
        for (int count = 0; count < 5; count++) {
            ask(f -> f.element(1, 0, 0, 0));
        }
        draft();
    }

    private void predicates() {
        for (int count = 0; count <= 6; count++) {
            ask(f -> f.predicate(2));
        }
        ask(f -> f.atom(5, 9, 9));
    }

    private void externals() {
        for (int atom = 0; atom <= 12; atom++) {
            int one = atom;
            ask(f -> f.assign(one, 0));
            ask(f -> f.assign(one, 1));
            ask(f -> f.assign(one, 2));
        }
        answers();
    }

    private void moreExternals() {
        for (int predicate = 0; predicate < 6; predicate++) {
            int number = predicate;
            ask(f -> f.external(number, 0, 0));
            ask(f -> f.external(number, 9, 0));
            ask(f -> f.external(number, 9, 9));
        }
        grounding();
    }

    private void preferences() {
        for (int count = 0; count <= 6; count++) {
            ask(f -> f.prefer(0, 1));
        }
        answers();
    }

    private void rules() {
        tell(StableFoundry::drop);
        for (int count = 0; count <= 20; count++) {
            tell(f -> f.weak(1, 2));
            ask(StableFoundry::enter);
            tell(StableFoundry::drop);
        }
        grounding();
    }
}
