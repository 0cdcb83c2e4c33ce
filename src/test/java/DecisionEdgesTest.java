/** The boundary cases of requests, rules, algorithms and decisions, sentence by sentence: promises 14 to 20. */
public final class DecisionEdgesTest {
    private static final int[] STEPS = {128, 32, 4, 1};

    public static void main(String[] args) {
        Check.finish(requestNumbers(), eachAttribute(), firstApplicable(), firstThatApplies(), denyOverrides(),
            permitOverrides(), onlyOne(), majority(), noRule(), ruleCounts(), effects(), targets(), algorithms(),
            decisionCounts(), applicableCounts());
    }

    // ---- requests and rules

    private static Check requestNumbers() {
        Check check = new Check("The number of a request is ((subject * 4 + action) * 8 + resource) * 4 + level; "
            + "there are 1024 requests, numbered 0 to 1023");
        int number = 0;
        for (int subject = 0; subject < 8; subject++) {
            for (int action = 0; action < 4; action++) {
                for (int resource = 0; resource < 8; resource++) {
                    for (int level = 0; level < 4; level++) {
                        String rule = "permit:s" + subject + ":a" + action + ":r" + resource + ":l" + level + ";";
                        PolicyComparer x = Check.loaded(rule);
                        check.due("decide of " + rule, x.decide(0, number), 0);
                        check.due("decisionCount of " + rule, x.decisionCount(0, 0), 1);
                        number++;
                    }
                }
            }
        }
        check.due("the number of requests", number, 1024);
        return check;
    }

    /** A rule for one request does not apply to any that differs from it in one attribute alone. */
    private static Check eachAttribute() {
        Check check = new Check("A rule applies to a request if each attribute value of the request "
            + "is in the set of that attribute");
        for (int request : new int[] {0, 1023, 341, 682, 96, 512}) {
            PolicyComparer x = Check.loaded(Check.ruleFor("deny", request));
            check.due("decide of the request", x.decide(0, request), 1);
            for (int attribute = 0; attribute < 4; attribute++) {
                int value = request / STEPS[attribute] % Check.SIZES[attribute];
                for (int other = 0; other < Check.SIZES[attribute]; other++) {
                    int asked = request + (other - value) * STEPS[attribute];
                    check.due("decide(0, " + asked + ")", x.decide(0, asked), other == value ? 1 : 2);
                    check.due("applicableRules(0, " + asked + ")", x.applicableRules(0, asked), other == value ? 1 : 0);
                }
            }
        }
        return check;
    }

    // ---- algorithms

    private interface Rule {
        int decision(int permits, int denies, int first);
    }

    /** All lists of up to eight effects, whose rules apply to level 0 alone. */
    private static Check allLists(String sentence, int algorithm, Rule rule) {
        Check check = new Check(sentence);
        for (int count = 0; count <= 8; count++) {
            for (int effects = 0; effects < 1 << count; effects++) {
                StringBuilder text = new StringBuilder("new;use" + Check.ALGORITHMS[algorithm] + ";");
                for (int i = 0; i < count; i++) {
                    text.append((effects >> i & 1) == 0 ? "permit:l0;" : "deny:l0;");
                }
                int denies = Integer.bitCount(effects);
                int due = count == 0 ? 2 : rule.decision(count - denies, denies, effects & 1);
                PolicyComparer x = Check.loaded(text.toString());
                check.due("decide(1, 0) of " + text, x.decide(1, 0), due);
                check.due("decide(1, 1020) of " + text, x.decide(1, 1020), due);
                check.due("decide(1, 1023) of " + text, x.decide(1, 1023), 2);
            }
        }
        return check;
    }

    private static Check firstApplicable() {
        return allLists("FIRST_APPLICABLE: the effect of the first rule that applies; NOT_APPLICABLE if no rule applies", 0,
            (permits, denies, first) -> first);
    }

    /** Rules before it that do not apply are passed over, and what comes behind it does not count. */
    private static Check firstThatApplies() {
        Check check = new Check("FIRST_APPLICABLE: the first rule that applies");
        PolicyComparer x = Check.loaded("permit:s0;deny:s01;permit:s2;deny:s23;permit:s4;deny:s45;permit:s6;deny:s67;");
        for (int subject = 0; subject < 8; subject++) {
            check.due("decide of subject " + subject, x.decide(0, subject * 128), subject % 2);
        }
        for (int last = 0; last < 8; last++) {
            PolicyComparer one = Check.loaded("permit:s0;".repeat(last) + "deny:s7;" + "permit:s7;".repeat(7 - last));
            check.due("decide where rule " + last + " is the first", one.decide(0, 1023), 1);
        }
        return check;
    }

    private static Check denyOverrides() {
        return allLists("DENY_OVERRIDES: DENY if a DENY rule applies; otherwise PERMIT if a PERMIT rule applies", 1,
            (permits, denies, first) -> denies > 0 ? 1 : 0);
    }

    private static Check permitOverrides() {
        return allLists("PERMIT_OVERRIDES: PERMIT if a PERMIT rule applies; otherwise DENY if a DENY rule applies", 2,
            (permits, denies, first) -> permits > 0 ? 0 : 1);
    }

    private static Check onlyOne() {
        return allLists("ONLY_ONE: the effect if exactly one rule applies; INDETERMINATE if two or more rules apply, "
            + "even if they have the same effect", 3, (permits, denies, first) -> permits + denies == 1 ? first : 3);
    }

    private static Check majority() {
        return allLists("MAJORITY: INDETERMINATE if as many PERMIT rules as DENY rules, at least one of each, apply", 4,
            (permits, denies, first) -> permits == denies ? 3 : permits > denies ? 0 : 1);
    }

    private static Check noRule() {
        Check check = new Check("NOT_APPLICABLE if no rule applies (all five algorithms)");
        for (String algorithm : Check.ALGORITHMS) {
            PolicyComparer x = Check.loaded("use" + algorithm + ";new;use" + algorithm + ";permit:s0:l1;deny:s0:l1;deny:r7:l1;");
            check.due("decisionCount(0, 2) of no rules", x.decisionCount(0, 2), 1024);
            for (int request = 0; request < 1024; request += 4) {
                check.due("decide(1, " + request + ")", x.decide(1, request), 2);
            }
        }
        return check;
    }

    // ---- promises 14 to 17

    private static Check ruleCounts() {
        Check check = new Check("promise 14: Returns 0 to 8");
        for (int policy = 0; policy < 2; policy++) {
            PolicyComparer x = Check.loaded("");
            for (int count = 0; count < 8; count++) {
                check.due("ruleCount at " + count, x.ruleCount(policy), count);
                check.due("ruleCount of the other", x.ruleCount(1 - policy), 0);
                x.addRule(policy, 0, 0);
            }
            x.addRule(policy, 0, 0);
            check.due("ruleCount at 8", x.ruleCount(policy), 8);
        }
        return check;
    }

    private static Check effects() {
        Check check = new Check("promise 15: Returns PERMIT or DENY");
        for (int effects = 0; effects < 256; effects++) {
            StringBuilder text = new StringBuilder("new;");
            for (int i = 0; i < 8; i++) {
                text.append((effects >> i & 1) == 0 ? "permit;" : "deny;");
            }
            PolicyComparer x = Check.loaded(text.toString());
            for (int i = 0; i < 8; i++) {
                check.due("effectOf(1, " + i + ") of " + text, x.effectOf(1, i), effects >> i & 1);
            }
        }
        return check;
    }

    private static Check targets() {
        Check check = new Check("promise 16: Returns the set as a bit mask");
        for (int attribute = 0; attribute < 4; attribute++) {
            for (int value = 0; value < Check.SIZES[attribute]; value++) {
                String rule = "permit:" + "sarl".charAt(attribute) + value + ";";
                PolicyComparer x = Check.loaded("deny;".repeat(7) + rule + "new;" + rule);
                check.due("targetOf of rule 7, " + rule, x.targetOf(0, 7, attribute), 1 << value);
                check.due("targetOf of rule 0, " + rule, x.targetOf(1, 0, attribute), 1 << value);
                check.due("targetOf of rule 6", x.targetOf(0, 6, attribute), (1 << Check.SIZES[attribute]) - 1);
            }
        }
        return check;
    }

    private static Check algorithms() {
        Check check = new Check("promise 17: Returns one of the five algorithm constants");
        for (int old = 0; old < 5; old++) {
            for (int added = 0; added < 5; added++) {
                PolicyComparer x = Check.loaded("use" + Check.ALGORITHMS[old] + ";new;use" + Check.ALGORITHMS[added] + ";");
                check.due("algorithmOf(0)", x.algorithmOf(0), old);
                check.due("algorithmOf(1)", x.algorithmOf(1), added);
            }
        }
        return check;
    }

    // ---- promises 19 and 20

    private static Check decisionCounts() {
        Check check = new Check("promise 19: Returns 0 to 1024");
        String[] texts = {"permit;", "deny;", "", "permit;deny;"};
        for (int decision = 0; decision < 4; decision++) {
            PolicyComparer x = Check.loaded("usemajority;" + texts[decision]);
            PolicyComparer y = Check.loaded("usemajority;new;usemajority;" + texts[decision]);
            for (int asked = 0; asked < 4; asked++) {
                check.due("decisionCount(0, " + asked + ")", x.decisionCount(0, asked), asked == decision ? 1024 : 0);
                check.due("decisionCount(1, " + asked + ")", y.decisionCount(1, asked), asked == decision ? 1024 : 0);
            }
        }
        for (int request : new int[] {0, 1023}) {
            PolicyComparer x = Check.loaded(Check.ruleFor("deny", request) + "permit;");
            check.due("decisionCount(0, 1) of one", x.decisionCount(0, 1), 1);
            check.due("decisionCount(0, 0) of the rest", x.decisionCount(0, 0), 1023);
        }
        return check;
    }

    private static Check applicableCounts() {
        Check check = new Check("promise 20: Returns 0 to 8");
        for (int count = 0; count <= 8; count++) {
            for (int added = 0; added <= 8; added += 4) {
                PolicyComparer x = Check.loaded("deny:l3;".repeat(count) + "new;" + "permit:l0;".repeat(added));
                for (int request : new int[] {0, 512, 1020}) {
                    check.due("applicableRules(0, " + request + ")", x.applicableRules(0, request), 0);
                    check.due("applicableRules(1, " + request + ")", x.applicableRules(1, request), added);
                    check.due("applicableRules(0, " + (request + 3) + ")", x.applicableRules(0, request + 3), count);
                    check.due("applicableRules(1, " + (request + 3) + ")", x.applicableRules(1, request + 3), 0);
                }
            }
        }
        return check;
    }
}
