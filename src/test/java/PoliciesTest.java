/** Promises 14 to 20, ordinary inputs: the questions about one policy and its decisions. */
public final class PoliciesTest {
    public static void main(String[] args) {
        Check.finish(ruleCount(), effectOf(), targetOf(), algorithmOf(), decide(), decisionCount(), applicableRules());
    }

    private static PolicyComparer initial() {
        return new PolicyComparer();
    }

    private static Check ruleCount() {
        Check check = new Check("promise 14");
        check.due("ruleCount(0)", initial().ruleCount(0), 2);
        check.due("ruleCount(1)", initial().ruleCount(1), 3);
        PolicyComparer x = Check.loaded("new;" + "deny;".repeat(8));
        check.due("ruleCount(0) of none", x.ruleCount(0), 0);
        check.due("ruleCount(1) of eight", x.ruleCount(1), 8);
        return check;
    }

    private static Check effectOf() {
        Check check = new Check("promise 15");
        PolicyComparer x = initial();
        check.due("effectOf(0, 0)", x.effectOf(0, 0), 0);
        check.due("effectOf(0, 1)", x.effectOf(0, 1), 1);
        check.due("effectOf(1, 1)", x.effectOf(1, 1), 1);
        check.due("effectOf(1, 2)", x.effectOf(1, 2), 0);
        return check;
    }

    private static Check targetOf() {
        Check check = new Check("promise 16");
        PolicyComparer x = Check.loaded("permit;new;deny:s07:a1:r345:l3;permit:r1;");
        int[] wanted = {129, 2, 56, 8};
        int[] all = {255, 15, 255, 15};
        for (int attribute = 0; attribute < 4; attribute++) {
            check.due("targetOf(1, 0, " + attribute + ")", x.targetOf(1, 0, attribute), wanted[attribute]);
            check.due("targetOf(0, 0, " + attribute + ")", x.targetOf(0, 0, attribute), all[attribute]);
        }
        return check;
    }

    private static Check algorithmOf() {
        Check check = new Check("promise 17");
        check.due("algorithmOf(0)", initial().algorithmOf(0), 1);
        check.due("algorithmOf(1)", initial().algorithmOf(1), 0);
        for (int algorithm = 0; algorithm < 5; algorithm++) {
            PolicyComparer x = Check.loaded("new;use" + Check.ALGORITHMS[algorithm] + ";");
            check.due("algorithmOf(1) of " + Check.ALGORITHMS[algorithm], x.algorithmOf(1), algorithm);
            check.due("algorithmOf(0) of " + Check.ALGORITHMS[algorithm], x.algorithmOf(0), 0);
        }
        return check;
    }

    private static void decisions(Check check, String rules, int... due) {
        for (int algorithm = 0; algorithm < 5; algorithm++) {
            PolicyComparer x = Check.loaded(rules + "use" + Check.ALGORITHMS[algorithm] + ";");
            check.due("decide(0, 0) of " + rules + Check.ALGORITHMS[algorithm], x.decide(0, 0), due[algorithm]);
            check.due("decide(0, 1) of " + rules + Check.ALGORITHMS[algorithm], x.decide(0, 1), 2);
        }
    }

    /** Each text's rules apply to level 0 alone; what the five algorithms make of them. */
    private static Check decide() {
        Check check = new Check("promise 18");
        decisions(check, "", 2, 2, 2, 2, 2);
        decisions(check, "permit:l0;", 0, 0, 0, 0, 0);
        decisions(check, "deny:l0;", 1, 1, 1, 1, 1);
        decisions(check, "deny:l2;permit:l0;", 0, 0, 0, 0, 0);
        decisions(check, "permit:l0;permit:l0;", 0, 0, 0, 3, 0);
        decisions(check, "deny:l0;deny:l0;", 1, 1, 1, 3, 1);
        decisions(check, "permit:l0;deny:l0;", 0, 1, 0, 3, 3);
        decisions(check, "deny:l0;permit:l0;", 1, 1, 0, 3, 3);
        decisions(check, "deny:l0;permit:l0;permit:l0;", 1, 1, 0, 3, 0);
        decisions(check, "permit:l0;deny:l0;deny:l0;", 0, 1, 0, 3, 1);
        decisions(check, "permit:l3;permit:l0;deny:l0;deny:l0;permit:l0;", 0, 1, 0, 3, 3);
        return check;
    }

    private static Check decisionCount() {
        Check check = new Check("promise 19");
        PolicyComparer x = Check.loaded("usemajority;permit:s0;deny:a0;");
        check.due("decisionCount(0, 0)", x.decisionCount(0, 0), 96);
        check.due("decisionCount(0, 1)", x.decisionCount(0, 1), 224);
        check.due("decisionCount(0, 2)", x.decisionCount(0, 2), 672);
        check.due("decisionCount(0, 3)", x.decisionCount(0, 3), 32);
        check.due("decisionCount(1, 2)", x.decisionCount(1, 2), 1024);
        check.due("decisionCount(1, 0)", x.decisionCount(1, 0), 0);
        return check;
    }

    private static Check applicableRules() {
        Check check = new Check("promise 20");
        PolicyComparer x = Check.loaded("permit:s0;deny:a0;permit;new;" + "deny:l3;".repeat(8));
        check.due("applicableRules(0, 0)", x.applicableRules(0, 0), 3);
        check.due("applicableRules(0, 32)", x.applicableRules(0, 32), 2);
        check.due("applicableRules(0, 1023)", x.applicableRules(0, 1023), 1);
        check.due("applicableRules(1, 1023)", x.applicableRules(1, 1023), 8);
        check.due("applicableRules(1, 1022)", x.applicableRules(1, 1022), 0);
        return check;
    }
}
