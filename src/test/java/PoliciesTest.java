/** Promises 14 to 20: the questions about one policy and its decisions. */
public final class PoliciesTest {
    private static final int MIN = Integer.MIN_VALUE;
    private static final int MAX = Integer.MAX_VALUE;
    private static final int[] NO_POLICY = {MIN, -1, 2, 3, MAX};

    public static void main(String[] args) {
        Check.finish(ruleCount(), effectOf(), targetOf(), algorithmOf(), decide(), decisionCount(), applicableRules());
    }

    private static PolicyComparer initial() {
        return new PolicyComparer();
    }

    private static Check ruleCount() {
        Check check = new Check("promise 14");
        check.due("ruleCount(0)", initial().ruleCount(0), 2);
        check.due("ruleCount(1)", initial().ruleCount(1), 3);
        PolicyComparer x = Check.loaded("new;" + "deny;".repeat(8));
        check.due("ruleCount(0) of none", x.ruleCount(0), 0);
        check.due("ruleCount(1) of eight", x.ruleCount(1), 8);
        for (int wrong : NO_POLICY) {
            check.due("ruleCount(" + wrong + ")", x.ruleCount(wrong), -1);
        }
        return check;
    }

    private static Check effectOf() {
        Check check = new Check("promise 15");
        PolicyComparer x = initial();
        check.due("effectOf(0, 0)", x.effectOf(0, 0), 0);
        check.due("effectOf(0, 1)", x.effectOf(0, 1), 1);
        check.due("effectOf(1, 1)", x.effectOf(1, 1), 1);
        check.due("effectOf(1, 2)", x.effectOf(1, 2), 0);
        for (int wrong : NO_POLICY) {
            check.due("effectOf(" + wrong + ", 0)", x.effectOf(wrong, 0), -1);
        }
        for (int wrong : new int[] {MIN, -1, 2, 8, 32, MAX}) {
            check.due("effectOf(0, " + wrong + ")", x.effectOf(0, wrong), -1);
        }
        return check;
    }

    private static Check targetOf() {
        Check check = new Check("promise 16");
        PolicyComparer x = Check.loaded("permit;new;deny:s07:a1:r345:l3;permit:r1;");
        int[] wanted = {129, 2, 56, 8};
        int[] all = {255, 15, 255, 15};
        for (int attribute = 0; attribute < 4; attribute++) {
            check.due("targetOf(1, 0, " + attribute + ")", x.targetOf(1, 0, attribute), wanted[attribute]);
            check.due("targetOf(0, 0, " + attribute + ")", x.targetOf(0, 0, attribute), all[attribute]);
        }
        for (int wrong : NO_POLICY) {
            check.due("targetOf(" + wrong + ", 0, 0)", x.targetOf(wrong, 0, 0), -1);
        }
        for (int wrong : new int[] {MIN, -1, 2, 8, 32, MAX}) {
            check.due("targetOf(1, " + wrong + ", 0)", x.targetOf(1, wrong, 0), -1);
        }
        for (int wrong : new int[] {MIN, -1, 4, MAX}) {
            check.due("targetOf(1, 0, " + wrong + ")", x.targetOf(1, 0, wrong), -1);
        }
        return check;
    }

    private static Check algorithmOf() {
        Check check = new Check("promise 17");
        check.due("algorithmOf(0)", initial().algorithmOf(0), 1);
        check.due("algorithmOf(1)", initial().algorithmOf(1), 0);
        String[] words = {"first", "denyover", "permitover", "onlyone", "majority"};
        for (int algorithm = 0; algorithm < 5; algorithm++) {
            PolicyComparer x = Check.loaded("new;use" + words[algorithm] + ";");
            check.due("algorithmOf(1) of " + words[algorithm], x.algorithmOf(1), algorithm);
            check.due("algorithmOf(0) of " + words[algorithm], x.algorithmOf(0), 0);
        }
        for (int wrong : NO_POLICY) {
            check.due("algorithmOf(" + wrong + ")", initial().algorithmOf(wrong), -1);
        }
        return check;
    }

    private static void decisions(Check check, String rules, int... due) {
        String[] words = {"first", "denyover", "permitover", "onlyone", "majority"};
        for (int algorithm = 0; algorithm < 5; algorithm++) {
            PolicyComparer x = Check.loaded(rules + "use" + words[algorithm] + ";");
            check.due("decide(0, 0) of " + rules + words[algorithm], x.decide(0, 0), due[algorithm]);
            check.due("decide(0, 1) of " + rules + words[algorithm], x.decide(0, 1), 2);
        }
    }

    /** Each text's rules apply to level 0 alone; what the five algorithms make of them. */
    private static Check decide() {
        Check check = new Check("promise 18");
        decisions(check, "", 2, 2, 2, 2, 2);
        decisions(check, "permit:l0;", 0, 0, 0, 0, 0);
        decisions(check, "deny:l0;", 1, 1, 1, 1, 1);
        decisions(check, "deny:l2;permit:l0;", 0, 0, 0, 0, 0);
        decisions(check, "permit:l0;permit:l0;", 0, 0, 0, 3, 0);
        decisions(check, "deny:l0;deny:l0;", 1, 1, 1, 3, 1);
        decisions(check, "permit:l0;deny:l0;", 0, 1, 0, 3, 3);
        decisions(check, "deny:l0;permit:l0;", 1, 1, 0, 3, 3);
        decisions(check, "deny:l0;permit:l0;permit:l0;", 1, 1, 0, 3, 0);
        decisions(check, "permit:l0;deny:l0;deny:l0;", 0, 1, 0, 3, 1);
        decisions(check, "permit:l3;permit:l0;deny:l0;deny:l0;permit:l0;", 0, 1, 0, 3, 3);
        numbering(check);
        PolicyComparer x = initial();
        for (int wrong : NO_POLICY) {
            check.due("decide(" + wrong + ", 0)", x.decide(wrong, 0), -1);
        }
        for (int wrong : new int[] {MIN, -1, 1024, 2048, MAX}) {
            check.due("decide(0, " + wrong + ")", x.decide(0, wrong), -1);
        }
        return check;
    }

    private static void numbering(Check check) {
        PolicyComparer x = Check.loaded("permit:s5:a2:r6:l1;");
        int number = ((5 * 4 + 2) * 8 + 6) * 4 + 1;
        for (int request = 0; request < 1024; request++) {
            check.due("decide(0, " + request + ")", x.decide(0, request), request == number ? 0 : 2);
        }
    }

    private static Check decisionCount() {
        Check check = new Check("promise 19");
        PolicyComparer x = Check.loaded("usemajority;permit:s0;deny:a0;");
        check.due("decisionCount(0, 0)", x.decisionCount(0, 0), 96);
        check.due("decisionCount(0, 1)", x.decisionCount(0, 1), 224);
        check.due("decisionCount(0, 2)", x.decisionCount(0, 2), 672);
        check.due("decisionCount(0, 3)", x.decisionCount(0, 3), 32);
        check.due("decisionCount(1, 2)", x.decisionCount(1, 2), 1024);
        check.due("decisionCount(1, 0)", x.decisionCount(1, 0), 0);
        for (int wrong : NO_POLICY) {
            check.due("decisionCount(" + wrong + ", 0)", x.decisionCount(wrong, 0), -1);
        }
        for (int wrong : new int[] {MIN, -1, 4, MAX}) {
            check.due("decisionCount(0, " + wrong + ")", x.decisionCount(0, wrong), -1);
        }
        return check;
    }

    private static Check applicableRules() {
        Check check = new Check("promise 20");
        PolicyComparer x = Check.loaded("permit:s0;deny:a0;permit;new;" + "deny:l3;".repeat(8));
        check.due("applicableRules(0, 0)", x.applicableRules(0, 0), 3);
        check.due("applicableRules(0, 32)", x.applicableRules(0, 32), 2);
        check.due("applicableRules(0, 1023)", x.applicableRules(0, 1023), 1);
        check.due("applicableRules(1, 1023)", x.applicableRules(1, 1023), 8);
        check.due("applicableRules(1, 1022)", x.applicableRules(1, 1022), 0);
        for (int wrong : NO_POLICY) {
            check.due("applicableRules(" + wrong + ", 0)", x.applicableRules(wrong, 0), -1);
        }
        for (int wrong : new int[] {MIN, -1, 1024, MAX}) {
            check.due("applicableRules(0, " + wrong + ")", x.applicableRules(0, wrong), -1);
        }
        return check;
    }
}
