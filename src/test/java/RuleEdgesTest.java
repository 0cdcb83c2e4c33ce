/** The boundary cases of the rules that do not matter, sentence by sentence: promises 28 to 31. */
public final class RuleEdgesTest {
    private static final String[] POOL = {"permit;", "deny;", "permit:s0;", "deny:s0;", "permit:l3;", "deny:s7:l3;"};
    private static final String[] OLD = {"", "permit;", "permit:s07;"};

    public static void main(String[] args) {
        Check.finish(redundantByRequest(), ruleAlone(), redundantByRemoval(), leastWitness(), noWitness(), coreOfNone(),
            coreOfAll(), coreByRequest(), lowestFirst(), asItIsThen(), untilNone(), presentNumbers(), unchangedByCore(),
            noGain(), removedRule(), fewerFirst(), leastMask(), allRules(), unchangedByRemoval(), everyShortPolicy(),
            everySetOfRules(), askedAgain());
    }

    // ---- promise 28

    /** One request alone makes the rule matter; behind a rule that takes this request too, none does. */
    private static Check redundantByRequest() {
        Check check = new Check("promise 28: without it, the policy would make the same decision for every request");
        for (int request = 0; request < 1024; request++) {
            String rule = Check.ruleFor("permit", request);
            PolicyComparer x = Check.loaded(rule + "deny;new;deny;" + rule);
            check.due("isRedundant(0, 0) of request " + request, x.isRedundant(0, 0), 0);
            check.due("isRedundant(1, 1) of request " + request, x.isRedundant(1, 1), 1);
            x.flipEffect(0, 0);
            check.due("isRedundant(0, 0) of a denial of " + request, x.isRedundant(0, 0), 1);
        }
        return check;
    }

    private static Check ruleAlone() {
        Check check = new Check("promise 28: Returns 1 if the rule is redundant, 0 if it is not (among 1 and 8 rules)");
        for (String algorithm : Check.ALGORITHMS) {
            for (String rule : POOL) {
                PolicyComparer x = Check.loaded("use" + algorithm + ";" + rule);
                check.due("isRedundant(0, 0) of " + rule + algorithm, x.isRedundant(0, 0), 0);
                PolicyComparer eight = Check.loaded("new;use" + algorithm + ";" + rule.repeat(8));
                for (int index = 0; index < 8; index++) {
                    check.due("isRedundant(1, " + index + ") of eight " + rule + algorithm, eight.isRedundant(1, index), 1);
                }
                PolicyComparer two = Check.loaded("new;use" + algorithm + ";" + rule + rule);
                check.due("isRedundant(1, 0) of two", two.isRedundant(1, 0), algorithm.equals("onlyone") ? 0 : 1);
                check.due("isRedundant(1, 1) of two", two.isRedundant(1, 1), algorithm.equals("onlyone") ? 0 : 1);
            }
        }
        return check;
    }

    /** The rule is removed from a copy; the two policies then agree on all requests or they do not. */
    private static Check redundantByRemoval() {
        Check check = new Check("promise 28: without it, the policy would make the same decision (by its removal)");
        for (String algorithm : Check.ALGORITHMS) {
            for (int choice = 0; choice < 216; choice++) {
                String rules = POOL[choice % 6] + POOL[choice / 6 % 6] + POOL[choice / 36];
                for (int index = 0; index < 3; index++) {
                    PolicyComparer x = Check.loaded("use" + algorithm + ";" + rules);
                    x.copyOldToNew();
                    x.removeRule(1, index);
                    int same = 0;
                    for (int decision = 0; decision < 4; decision++) {
                        same += x.transitionCount(decision, decision);
                    }
                    check.due("isRedundant(0, " + index + ") of " + rules + algorithm, x.isRedundant(0, index),
                        same == 1024 ? 1 : 0);
                }
            }
        }
        return check;
    }

    // ---- promise 29

    private static Check leastWitness() {
        Check check = new Check("promise 29: the least number of a request for which the policy would make another decision");
        for (int request = 0; request < 1024; request++) {
            String rule = Check.ruleFor("permit", request);
            PolicyComparer x = Check.loaded(rule + "deny;new;" + rule);
            check.due("witness(0, 0) of request " + request, x.witness(0, 0), request);
            check.due("witness(0, 1) of the rest", x.witness(0, 1), request == 0 ? 1 : 0);
            check.due("witness(1, 0) of request " + request, x.witness(1, 0), request);
        }
        check.due("witness of all", Check.loaded("permit;").witness(0, 0), 0);
        // Without the rule INDETERMINATE becomes PERMIT, or PERMIT becomes INDETERMINATE.
        check.due("witness of a second rule", Check.loaded("useonlyone;permit:l2;permit:l3;permit:l3;").witness(0, 2), 3);
        check.due("witness of the vote that decides", Check.loaded("usemajority;permit:l1;deny:l1;permit:l13;").witness(0, 2), 1);
        return check;
    }

    private static Check noWitness() {
        Check check = new Check("promise 29: NOT_FOUND if the rule is redundant");
        for (String algorithm : Check.ALGORITHMS) {
            PolicyComparer x = Check.loaded("use" + algorithm + ";" + "deny;".repeat(3));
            for (int index = 0; index < 3; index++) {
                check.due("witness(0, " + index + ") of three", x.witness(0, index), -4);
            }
        }
        check.due("witness of a rule behind all", Check.loaded("deny;permit;").witness(0, 1), -4);
        check.due("witness of an overridden permit", Check.loaded("usedenyover;permit:s0;deny:s01;").witness(0, 0), -4);
        check.due("witness of an overridden deny", Check.loaded("usepermitover;permit:s01;deny:s0;").witness(0, 1), -4);
        return check;
    }

    // ---- promise 30

    private static void core(Check check, String rules, int due) {
        check.due("irredundantCore(0) of " + rules, Check.loaded(rules).irredundantCore(0), due);
        check.due("irredundantCore(1) of " + rules, Check.loaded("new;" + rules).irredundantCore(1), due);
    }

    private static Check coreOfNone() {
        Check check = new Check("promise 30: the rules that would remain (of an empty policy)");
        for (String algorithm : Check.ALGORITHMS) {
            core(check, "use" + algorithm + ";", 0);
        }
        return check;
    }

    private static Check coreOfAll() {
        Check check = new Check("promise 30: the rules that would remain (of a full policy)");
        for (String algorithm : Check.ALGORITHMS) {
            core(check, "use" + algorithm + ";permit:s0;deny:s1;permit:s2;deny:s3;permit:s4;deny:s5;permit:s6;deny:s7;", 255);
            for (String rule : POOL) {
                core(check, "use" + algorithm + ";" + rule, 1);
                core(check, "use" + algorithm + ";" + rule.repeat(8), algorithm.equals("onlyone") ? 192 : 128);
            }
        }
        return check;
    }

    private static Check coreByRequest() {
        Check check = new Check("promise 30: until none is redundant (one request is enough to need a rule)");
        for (int request = 0; request < 1024; request++) {
            core(check, Check.ruleFor("deny", request), 1);
            core(check, Check.ruleFor("permit", request) + "deny;", 3);
            core(check, "deny;" + Check.ruleFor("permit", request), 1);
        }
        return check;
    }

    private static Check lowestFirst() {
        Check check = new Check("promise 30: always the redundant rule with the lowest number");
        core(check, "permit;permit;", 2);
        core(check, "permit:s0;permit:s1;permit:s01;", 4);
        core(check, "permit:s01;permit:s0;permit:s1;", 6);
        core(check, "usemajority;permit;permit;permit;deny;", 4);
        core(check, "useonlyone;permit;deny;permit;deny;", 12);
        return check;
    }

    private static Check asItIsThen() {
        Check check = new Check("promise 30: one at a time, .. of the policy as it is then");
        // Rule 0 is redundant only when rule 1 has gone.
        core(check, "deny:s0;permit:s0;deny:s0;", 4);
        // Each permit is needed against the deny; when the deny has gone, one is enough.
        core(check, "usemajority;permit;permit;deny;", 2);
        // Each twin is redundant while the other stands.
        core(check, "usedenyover;permit:s0;permit:s0;deny:s1;deny:s1;", 10);
        return check;
    }

    /** What remains, loaded by itself, has no redundant rule and decides as before. */
    private static Check untilNone() {
        Check check = new Check("promise 30: until none is redundant");
        for (String algorithm : Check.ALGORITHMS) {
            for (int choice = 0; choice < 1296; choice += 5) {
                int[] chosen = {choice % 6, choice / 6 % 6, choice / 36 % 6, choice / 216};
                StringBuilder rules = new StringBuilder("use" + algorithm + ";");
                for (int rule : chosen) {
                    rules.append(POOL[rule]);
                }
                PolicyComparer x = Check.loaded(rules.toString());
                int core = x.irredundantCore(0);
                x.copyOldToNew();
                for (int index = 3; index >= 0; index--) {
                    if ((core >> index & 1) == 0) {
                        x.removeRule(1, index);
                    }
                }
                int left = x.ruleCount(1);
                check.due("the rules of " + rules, left, Integer.bitCount(core));
                for (int index = 0; index < left; index++) {
                    check.due("isRedundant(1, " + index + ") of the core of " + rules, x.isRedundant(1, index), 0);
                }
                check.due("decisions that differ", x.transitionCount(0, 0) + x.transitionCount(1, 1)
                    + x.transitionCount(2, 2) + x.transitionCount(3, 3), 1024);
            }
        }
        return check;
    }

    private static Check presentNumbers() {
        Check check = new Check("promise 30: as a bit mask of their present numbers");
        for (int needed = 0; needed < 8; needed++) {
            core(check, "deny:s0;".repeat(needed) + "permit:s1;" + "deny:s0;".repeat(7 - needed),
                1 << needed | (needed == 7 ? 64 : 128));
        }
        return check;
    }

    private static Check unchangedByCore() {
        Check check = new Check("promise 30: without changing the policy itself");
        PolicyComparer x = Check.loaded("permit;permit;deny;new;deny;deny;");
        x.flipEffect(0, 1);
        String before = Check.state(x);
        check.due("irredundantCore(0)", x.irredundantCore(0), 1);
        check.due("irredundantCore(0) again", x.irredundantCore(0), 1);
        check.due("irredundantCore(1)", x.irredundantCore(1), 2);
        check.sameText("the state", Check.state(x), before);
        return check;
    }

    // ---- promise 31

    private static void removal(Check check, String text, int due) {
        check.due("leastRemoval() of " + text, Check.loaded(text).leastRemoval(), due);
    }

    private static Check noGain() {
        Check check = new Check("promise 31: 0 if no request gains");
        removal(check, "", 0);
        removal(check, "permit;", 0);
        removal(check, "permit;new;permit;", 0);
        removal(check, "new;" + "deny;".repeat(8), 0);
        removal(check, "new;useonlyone;permit;permit;", 0);
        removal(check, "new;usemajority;permit;deny;", 0);
        removal(check, "permit:s0;new;permit:s0;", 0);
        return check;
    }

    private static Check removedRule() {
        Check check = new Check("promise 31: whose removal leaves no request that gains (one request is enough)");
        for (int request = 0; request < 1024; request++) {
            removal(check, "new;deny:s0:a0:r0:l1;" + Check.ruleFor("permit", request), request == 1 ? 0 : 2);
            removal(check, "permit;new;" + Check.ruleFor("permit", request), 0);
        }
        removal(check, "new;permit:s0;deny;permit:s1;", 1);
        // Rule 1 alone gains, but without it rule 0 would.
        removal(check, "new;useonlyone;permit:s0;permit:s01;", 3);
        return check;
    }

    private static Check fewerFirst() {
        Check check = new Check("promise 31: Sets with fewer rules come first");
        for (int high = 3; high < 8; high++) {
            // Rules 0 and 1 would do together, with the lower mask; the last rule does alone.
            removal(check, "new;usemajority;permit:s0;permit:s1;deny:s01;" + "deny:s7;".repeat(high - 3) + "permit:s01;",
                1 << high);
        }
        removal(check, "new;usedenyover;permit:s0;permit:s1;deny:s2;", 3);
        return check;
    }

    private static Check leastMask() {
        Check check = new Check("promise 31: among sets with as many rules the least bit mask comes first");
        for (int first = 0; first <= 5; first++) {
            // Either of the permits may go; the first of them is the least.
            removal(check, "new;usemajority;" + "deny:s7;".repeat(first) + "permit:s0;permit:s0;deny:s0;", 1 << first);
        }
        removal(check, "new;usemajority;permit;permit;permit;deny;", 3);
        removal(check, "new;usemajority;deny;permit;permit;permit;", 6);
        return check;
    }

    /** At worst all rules go, as no rule grants nothing; so NOT_FOUND never comes about. */
    private static Check allRules() {
        Check check = new Check("promise 31: Returns the set as a bit mask of rule numbers (of 1 to 8 rules, all or one)");
        for (int count = 1; count <= 8; count++) {
            removal(check, "new;" + "permit;".repeat(count), (1 << count) - 1);
            removal(check, "new;" + "deny:s0;".repeat(count - 1) + "permit:s1;", 1 << count - 1);
            removal(check, "new;permit:s1;" + "deny:s0;".repeat(count - 1), 1);
        }
        return check;
    }

    private static Check unchangedByRemoval() {
        Check check = new Check("promise 31: Nothing is changed");
        PolicyComparer x = Check.loaded("permit:s0;new;permit;permit:s0;deny;");
        x.flipEffect(1, 2);
        String before = Check.state(x);
        check.due("leastRemoval()", x.leastRemoval(), 5);
        check.due("leastRemoval() again", x.leastRemoval(), 5);
        check.sameText("the state", Check.state(x), before);
        return check;
    }

    /** All policies of up to three rules of the pool, held against the model. */
    private static Check everyShortPolicy() {
        Check check = new Check("promises 29 to 31 against the model");
        for (String algorithm : Check.ALGORITHMS) {
            for (int choice = 0; choice < 343; choice++) {
                StringBuilder text = new StringBuilder(OLD[choice % 3] + "new;use" + algorithm + ";");
                for (int rest = choice; rest > 0; rest /= 7) {
                    text.append(rest % 7 == 0 ? "" : POOL[rest % 7 - 1]);
                }
                likeModel(check, text.toString());
            }
        }
        return check;
    }

    /** Rule i applies where one bit of the request's number is 1, so each of the 256 sets of rules applies somewhere. */
    private static Check everySetOfRules() {
        Check check = new Check("promises 29 to 31 against the model (every set of rules applies together)");
        String[] targets = {":s1357;", ":s2367;", ":s4567;", ":a13;", ":a23;", ":r1357;", ":r2367;", ":r4567;"};
        for (int effects : new int[] {0, 1, 0x55, 0xAA, 0x0F, 0x3C, 0x80, 0xFF}) {
            for (int algorithm = 0; algorithm < 5; algorithm++) {
                StringBuilder text = new StringBuilder(OLD[algorithm % 3] + "new;use" + Check.ALGORITHMS[algorithm] + ";");
                for (int i = 0; i < 8; i++) {
                    text.append((effects >> i & 1) == 0 ? "permit" : "deny").append(targets[i]);
                }
                likeModel(check, text.toString());
            }
        }
        return check;
    }

    /** What one call looked at must not reach into the next, which looks at fewer sets of rules. */
    private static Check askedAgain() {
        Check check = new Check("promises 30 and 31, one call after the other");
        PolicyComparer x = Check.loaded("permit:s1;permit:s0;new;permit;permit;");
        check.due("leastRemoval() at first", x.leastRemoval(), 3);
        check.due("irredundantCore(0) of more sets", x.irredundantCore(0), 3);
        check.due("irredundantCore(1) of fewer sets", x.irredundantCore(1), 2);
        x.setTarget(0, 0, 0, 255);
        check.due("leastRemoval() where nothing gains", x.leastRemoval(), 0);
        check.due("irredundantCore(0) where one rule is enough", x.irredundantCore(0), 1);
        return check;
    }

    private static void likeModel(Check check, String text) {
        PolicyComparer x = Check.loaded(text);
        PlainModel model = PlainModel.withText(text);
        model.load();
        for (int index = 0; index < 8; index++) {
            check.due("witness(1, " + index + ") of " + text, x.witness(1, index), model.witness(1, index));
        }
        check.due("irredundantCore(1) of " + text, x.irredundantCore(1), model.irredundantCore(1));
        check.due("leastRemoval() of " + text, x.leastRemoval(), model.leastRemoval());
    }
}
