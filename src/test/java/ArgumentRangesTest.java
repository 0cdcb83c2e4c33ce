import java.util.ArrayList;
import java.util.List;
import java.util.function.Supplier;

/**
 * Each sentence that tells the range of an argument: all in the range is accepted; its neighbours, and what would
 * fall into the range by a wrap-around, are answered with INVALID_ARGUMENT and change nothing.
 */
public final class ArgumentRangesTest {
    private static final String POLICY = ", `policy`: 0 or 1";
    private static final String INDEX = ", `index`: number of an existing rule";
    private static final String ATTRIBUTE = ", `attribute`: 0 to 3";
    private static final String REQUEST = ", `request`: 0 to 1023";
    private static final List<Check> CHECKS = new ArrayList<>();

    private interface Call {
        int with(PolicyComparer x, int argument);
    }

    private interface RuleCall {
        int with(PolicyComparer x, int policy, int index);
    }

    public static void main(String[] args) {
        texts();
        policies();
        addedRules();
        existingRules();
        targets();
        algorithmsAndEffects();
        requestsAndDecisions();
        comparisons();
        Check.finish(CHECKS.toArray(new Check[0]));
    }

    // ---- objects to call

    /** Two old rules and three new ones, a text to load and two edits to undo. */
    private static PolicyComparer inUse() {
        PolicyComparer x = Check.withText("new;deny:s3;old;permit:l2;");
        x.flipEffect(1, 2);
        x.setAlgorithm(0, 4);
        return x;
    }

    private static PolicyComparer withoutRules() {
        PolicyComparer x = Check.loaded("");
        x.setAlgorithm(1, 3);
        return x;
    }

    private static PolicyComparer withRules(int policy, int count) {
        PolicyComparer x = Check.loaded((policy == 0 ? "" : "new;") + "deny:l1;".repeat(count));
        x.setAlgorithm(1, 3);
        return x;
    }

    // ---- ranges

    private static List<Integer> beyond(int low, int high) {
        List<Integer> beyond = new ArrayList<>(List.of(Check.MIN, Check.MIN + low, Check.MAX, low - 1, high + 1,
            high + 2, -1, -low - 2, 4, 5, 8, 9, 31, 32, 64, 127, 128, 255, 256, 1024, 2048, 65535));
        for (int wrapped : new int[] {4, 5, 8, 10, 16, 24, 31}) {
            beyond.add(low + (1 << wrapped));
            beyond.add(high + (1 << wrapped));
        }
        beyond.removeIf(value -> value >= low && value <= high);
        return beyond;
    }

    private static void range(String sentence, Supplier<PolicyComparer> fresh, int low, int high, Call call) {
        Check check = new Check(sentence);
        for (int accepted = low; accepted <= high; accepted++) {
            check.holds(accepted + " is accepted", call.with(fresh.get(), accepted) != -1);
        }
        String untouched = Check.tale(fresh.get());
        for (int refused : beyond(low, high)) {
            PolicyComparer x = fresh.get();
            check.due("the call with " + refused, call.with(x, refused), -1);
            check.sameText("the object after " + refused, Check.tale(x), untouched);
        }
        CHECKS.add(check);
    }

    private static void range(String sentence, int low, int high, Call call) {
        range(sentence, ArgumentRangesTest::inUse, low, high, call);
    }

    // ---- promise 2

    private static void texts() {
        range("promise 2, `character`: a character code, 32 to 126", 32, 126, PolicyComparer::append);
    }

    // ---- `policy`: 0 or 1

    private static void policies() {
        range("promise 6, `policy`: 0 for the old policy, 1 for the new one", 0, 1, (x, p) -> x.addRule(p, 0, 0));
        range("promise 7" + POLICY, 0, 1, (x, p) -> x.removeRule(p, 0));
        range("promise 8" + POLICY, 0, 1, (x, p) -> x.moveRule(p, 0, 1));
        range("promise 9" + POLICY, 0, 1, (x, p) -> x.setAlgorithm(p, 2));
        range("promise 10" + POLICY, 0, 1, (x, p) -> x.setTarget(p, 0, 0, 64));
        range("promise 11" + POLICY, 0, 1, (x, p) -> x.flipEffect(p, 0));
        range("promise 14" + POLICY, 0, 1, PolicyComparer::ruleCount);
        range("promise 15" + POLICY, 0, 1, (x, p) -> x.effectOf(p, 0));
        range("promise 16" + POLICY, 0, 1, (x, p) -> x.targetOf(p, 0, 0));
        range("promise 17" + POLICY, 0, 1, PolicyComparer::algorithmOf);
        range("promise 18" + POLICY, 0, 1, (x, p) -> x.decide(p, 0));
        range("promise 19" + POLICY, 0, 1, (x, p) -> x.decisionCount(p, 0));
        range("promise 20" + POLICY, 0, 1, (x, p) -> x.applicableRules(p, 0));
        range("promise 27" + POLICY, 0, 1, PolicyComparer::grantedShareBits);
        range("promise 28" + POLICY, 0, 1, (x, p) -> x.isRedundant(p, 0));
        range("promise 29" + POLICY, 0, 1, (x, p) -> x.witness(p, 0));
        range("promise 30" + POLICY, 0, 1, PolicyComparer::irredundantCore);
    }

    // ---- numbers of rules

    private static void addedRules() {
        String sentence = "promise 6, `index`: 0 to the number of rules of the policy";
        for (int policy = 0; policy < 2; policy++) {
            int p = policy;
            // Eight rules too: index 8 is in its range there, and refused by LIMIT_REACHED alone.
            for (int rules = 0; rules <= 8; rules++) {
                int count = rules;
                range(sentence, () -> withRules(p, count), 0, count, (x, index) -> x.addRule(p, index, 1));
            }
        }
    }

    private static void existingRules() {
        existingRule("promise 7" + INDEX, PolicyComparer::removeRule);
        existingRule("promise 8, `from`: number of an existing rule", (x, p, from) -> x.moveRule(p, from, 0));
        existingRule("promise 8, `to`: that of an existing rule", (x, p, to) -> x.moveRule(p, 0, to));
        existingRule("promise 10" + INDEX, (x, p, index) -> x.setTarget(p, index, 0, 64));
        existingRule("promise 11" + INDEX, PolicyComparer::flipEffect);
        existingRule("promise 15" + INDEX, PolicyComparer::effectOf);
        existingRule("promise 16" + INDEX, (x, p, index) -> x.targetOf(p, index, 0));
        existingRule("promise 28" + INDEX, PolicyComparer::isRedundant);
        existingRule("promise 29" + INDEX, PolicyComparer::witness);
    }

    /** The range ends with the policy's own last rule, whatever the other policy has; without rules it is empty. */
    private static void existingRule(String sentence, RuleCall call) {
        for (int policy = 0; policy < 2; policy++) {
            int p = policy;
            range(sentence, 0, policy == 0 ? 1 : 2, (x, index) -> call.with(x, p, index));
            range(sentence, ArgumentRangesTest::withoutRules, 0, -1, (x, index) -> call.with(x, p, index));
            for (int rules : new int[] {1, 7, 8}) {
                range(sentence, () -> withRules(p, rules), 0, rules - 1, (x, index) -> call.with(x, p, index));
                range(sentence, () -> withRules(1 - p, rules), 0, -1, (x, index) -> call.with(x, p, index));
            }
        }
    }

    // ---- attributes and sets of values

    private static void targets() {
        range("promise 10" + ATTRIBUTE, 0, 3, (x, attribute) -> x.setTarget(1, 1, attribute, 1));
        range("promise 16" + ATTRIBUTE, 0, 3, (x, attribute) -> x.targetOf(1, 1, attribute));
        range("promise 23" + ATTRIBUTE, 0, 3, (x, attribute) -> x.gainCountOf(attribute, 0));
        for (int attribute = 0; attribute < 4; attribute++) {
            int a = attribute;
            range("promise 10, `values`: non-empty, with bits for values of the attribute only", 1,
                (1 << Check.SIZES[a]) - 1, (x, values) -> x.setTarget(1, 1, a, values));
            range("promise 23, `value`: a value of the attribute", 0, Check.SIZES[a] - 1,
                (x, value) -> x.gainCountOf(a, value));
            strayBits(a);
        }
    }

    private static void strayBits(int attribute) {
        Check check = new Check("promise 10, `values`: with bits for values of the attribute only");
        String untouched = Check.tale(inUse());
        for (int bit = Check.SIZES[attribute]; bit < 32; bit++) {
            for (int values : new int[] {1 << bit, 1 | 1 << bit, (1 << Check.SIZES[attribute]) - 1 | 1 << bit}) {
                PolicyComparer x = inUse();
                check.due("setTarget(0, 0, " + attribute + ", " + values + ")", x.setTarget(0, 0, attribute, values), -1);
                check.sameText("the object after " + values, Check.tale(x), untouched);
            }
        }
        CHECKS.add(check);
    }

    // ---- constants as arguments

    private static void algorithmsAndEffects() {
        range("promise 9, `algorithm`: one of the five algorithm constants", 0, 4, (x, use) -> x.setAlgorithm(0, use));
        range("promise 9, `algorithm`: one of the five algorithm constants", 0, 4, (x, use) -> x.setAlgorithm(1, use));
        range("promise 6, `effect`: PERMIT or DENY", 0, 1, (x, effect) -> x.addRule(0, 0, effect));
        range("promise 6, `effect`: PERMIT or DENY", 0, 1, (x, effect) -> x.addRule(1, 3, effect));
    }

    private static void requestsAndDecisions() {
        for (int policy = 0; policy < 2; policy++) {
            int p = policy;
            range("promise 18" + REQUEST, 0, 1023, (x, request) -> x.decide(p, request));
            range("promise 20" + REQUEST, 0, 1023, (x, request) -> x.applicableRules(p, request));
            range("promise 19, `decision`: PERMIT, DENY, NOT_APPLICABLE or INDETERMINATE", 0, 3,
                (x, decision) -> x.decisionCount(p, decision));
        }
    }

    private static void comparisons() {
        range("promise 24, `from`: 0 to 1023", 0, 1023, PolicyComparer::nextGain);
        range("promise 25, `from`: 0 to 1023", 0, 1023, PolicyComparer::nextLoss);
        for (int decision = 0; decision < 4; decision++) {
            int d = decision;
            range("promise 26, `oldDecision`: a decision of the old policy", 0, 3, (x, before) -> x.transitionCount(before, d));
            range("promise 26, `newDecision`: a decision of the new policy", 0, 3, (x, after) -> x.transitionCount(d, after));
        }
    }
}
