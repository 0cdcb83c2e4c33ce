import java.util.ArrayList;
import java.util.Collections;
import java.util.List;

/** The boundary cases of the edits, sentence by sentence: promises 6 to 12. */
public final class EditEdgesTest {
    public static void main(String[] args) {
        Check.finish(addedAnywhere(), addedApplies(), nineRules(), removedAnywhere(), removedToNone(), movedAnywhere(),
            movedNowhere(), algorithmBefore(), sameAlgorithm(), setBefore(), sameSet(), flipped(), copied(), copiedSame());
    }

    // ---- helpers

    /** So many rules, which show their number in their subjects and in turn permit and deny. */
    private static PolicyComparer numbered(int policy, int count) {
        StringBuilder text = new StringBuilder(policy == 0 ? "new;deny:l3;usemajority;old;" : "deny:l3;usemajority;new;");
        for (int i = 0; i < count; i++) {
            text.append(i % 2 == 0 ? "permit:s" : "deny:s").append(i).append(';');
        }
        return Check.loaded(text.append("useonlyone;").toString());
    }

    private static List<String> numbers(int count) {
        List<String> rules = new ArrayList<>();
        for (int i = 0; i < count; i++) {
            rules.add((i % 2) + ":" + (1 << i) + ":15:255:15");
        }
        return rules;
    }

    private static void rulesAre(Check check, String call, PolicyComparer x, int policy, List<String> rules) {
        List<String> parts = new ArrayList<>(List.of(policy + " use3"));
        parts.addAll(rules);
        String own = String.join(" ", parts);
        String other = (1 - policy) + " use4 1:255:15:255:8";
        check.sameText("the policies after " + call, Check.policies(x), policy == 0 ? own + ";" + other : other + ";" + own);
    }

    private static String call(String name, int... arguments) {
        StringBuilder call = new StringBuilder(name).append('(');
        for (int argument : arguments) {
            call.append(call.charAt(call.length() - 1) == '(' ? "" : ", ").append(argument);
        }
        return call.append(')').toString();
    }

    // ---- promise 6

    private static Check addedAnywhere() {
        Check check = new Check("promise 6: the rules from this index on move up by one; Returns the new number of rules");
        for (int count = 0; count < 8; count++) {
            for (int index = 0; index <= count; index++) {
                for (int policy = 0; policy < 2; policy++) {
                    int effect = (index + count) % 2;
                    String call = call("addRule", policy, index, effect);
                    PolicyComparer x = numbered(policy, count);
                    check.due(call, x.addRule(policy, index, effect), count + 1);
                    List<String> due = numbers(count);
                    due.add(index, effect + ":255:15:255:15");
                    rulesAre(check, call, x, policy, due);
                    check.due("historySize() after " + call, x.historySize(), 1);
                }
            }
        }
        return check;
    }

    private static Check addedApplies() {
        Check check = new Check("promise 6: Inserts a rule that applies to all requests");
        for (int policy = 0; policy < 2; policy++) {
            for (int effect = 0; effect < 2; effect++) {
                PolicyComparer x = Check.loaded("");
                x.addRule(policy, 0, effect);
                check.due("decisionCount", x.decisionCount(policy, effect), 1024);
                check.due("applicableRules of request 0", x.applicableRules(policy, 0), 1);
                check.due("applicableRules of request 1023", x.applicableRules(policy, 1023), 1);
            }
        }
        return check;
    }

    private static Check nineRules() {
        Check check = new Check("promise 6: LIMIT_REACHED if the policy has 8 rules");
        for (int policy = 0; policy < 2; policy++) {
            PolicyComparer seven = numbered(policy, 7);
            check.due("addRule at 7", seven.addRule(policy, 7, 0), 8);
            check.due("addRule at 8", seven.addRule(policy, 8, 0), -2);
            check.due("addRule to the other policy", seven.addRule(1 - policy, 1, 0), 2);
            for (int index = 0; index <= 8; index++) {
                for (int effect = 0; effect < 2; effect++) {
                    PolicyComparer x = numbered(policy, 8);
                    String call = call("addRule", policy, index, effect);
                    check.due(call + " at 8", x.addRule(policy, index, effect), -2);
                    rulesAre(check, call, x, policy, numbers(8));
                    check.due("historySize() after " + call, x.historySize(), 0);
                }
            }
            PolicyComparer again = numbered(policy, 8);
            again.removeRule(policy, 7);
            check.due("addRule after a removal", again.addRule(policy, 7, 1), 8);
            again.undo();
            check.due("addRule after an undo", again.addRule(policy, 0, 1), 8);
        }
        return check;
    }

    // ---- promise 7

    private static Check removedAnywhere() {
        Check check = new Check("promise 7: Removes a rule; Returns the new number of rules of the policy");
        for (int count = 1; count <= 8; count++) {
            for (int index = 0; index < count; index++) {
                for (int policy = 0; policy < 2; policy++) {
                    String call = call("removeRule", policy, index);
                    PolicyComparer x = numbered(policy, count);
                    check.due(call, x.removeRule(policy, index), count - 1);
                    List<String> due = numbers(count);
                    due.remove(index);
                    rulesAre(check, call, x, policy, due);
                    check.due("historySize() after " + call, x.historySize(), 1);
                }
            }
        }
        return check;
    }

    private static Check removedToNone() {
        Check check = new Check("A policy is a list of 0 to 8 rules (by removal)");
        for (int policy = 0; policy < 2; policy++) {
            PolicyComparer x = numbered(policy, 8);
            for (int left = 7; left >= 0; left--) {
                check.due("removeRule with " + left + " left", x.removeRule(policy, left / 2), left);
            }
            check.due("ruleCount", x.ruleCount(policy), 0);
            check.due("removeRule of none", x.removeRule(policy, 0), -1);
            check.due("decisionCount of none", x.decisionCount(policy, 2), 1024);
            check.due("algorithmOf is kept", x.algorithmOf(policy), 3);
            check.due("addRule to none", x.addRule(policy, 0, 1), 1);
            check.due("decisionCount of one", x.decisionCount(policy, 1), 1024);
        }
        return check;
    }

    // ---- promise 8

    private static Check movedAnywhere() {
        Check check = new Check("promise 8: the rules between both places move by one; Returns the effect of the moved rule");
        for (int count : new int[] {2, 3, 7, 8}) {
            for (int place = 0; place < count * count; place++) {
                for (int policy = 0; policy < 2; policy++) {
                    int from = place / count;
                    int to = place % count;
                    String call = call("moveRule", policy, from, to);
                    PolicyComparer x = numbered(policy, count);
                    check.due(call, x.moveRule(policy, from, to), from == to ? -3 : from % 2);
                    List<String> due = numbers(count);
                    Collections.rotate(due.subList(Math.min(from, to), Math.max(from, to) + 1), from < to ? -1 : 1);
                    rulesAre(check, call, x, policy, from == to ? numbers(count) : due);
                    check.due("historySize() after " + call, x.historySize(), from == to ? 0 : 1);
                }
            }
        }
        return check;
    }

    private static Check movedNowhere() {
        Check check = new Check("promise 8: NO_CHANGE if from equals to");
        for (int count = 1; count <= 8; count++) {
            for (int index = 0; index < count; index++) {
                check.due("moveRule to itself", numbered(0, count).moveRule(0, index, index), -3);
                check.due("moveRule to itself", numbered(1, count).moveRule(1, index, index), -3);
            }
        }
        // Two rules that are alike change places all the same.
        PolicyComparer x = Check.loaded("permit;permit;");
        check.due("moveRule of a rule among its like", x.moveRule(0, 0, 1), 0);
        check.due("historySize() after it", x.historySize(), 1);
        return check;
    }

    // ---- promise 9

    private static Check algorithmBefore() {
        Check check = new Check("promise 9: Returns the previous algorithm");
        for (int before = 0; before < 5; before++) {
            for (int after = 0; after < 5; after++) {
                for (int policy = 0; policy < 2 && before != after; policy++) {
                    PolicyComparer x = Check.loaded((policy == 0 ? "" : "new;") + "use" + Check.ALGORITHMS[before] + ";");
                    check.due(call("setAlgorithm", policy, after), x.setAlgorithm(policy, after), before);
                    check.due("algorithmOf", x.algorithmOf(policy), after);
                    check.due("algorithmOf the other", x.algorithmOf(1 - policy), 0);
                    check.due("historySize()", x.historySize(), 1);
                }
            }
        }
        return check;
    }

    private static Check sameAlgorithm() {
        Check check = new Check("promise 9: NO_CHANGE if the policy already has this algorithm");
        for (int algorithm = 0; algorithm < 5; algorithm++) {
            String use = "use" + Check.ALGORITHMS[algorithm] + ";";
            PolicyComparer x = Check.loaded(use + "new;" + use);
            for (int policy = 0; policy < 2; policy++) {
                check.due(call("setAlgorithm", policy, algorithm), x.setAlgorithm(policy, algorithm), -3);
                check.due("historySize()", x.historySize(), 0);
            }
        }
        // What the other policy has does not matter.
        PolicyComparer x = Check.loaded("usemajority;");
        check.due("setAlgorithm(1, 4)", x.setAlgorithm(1, 4), 0);
        check.due("setAlgorithm(1, 4) again", x.setAlgorithm(1, 4), -3);
        check.due("setAlgorithm(0, 4)", x.setAlgorithm(0, 4), -3);
        return check;
    }

    // ---- promise 10

    private static Check setBefore() {
        Check check = new Check("promise 10: Returns the previous set as a bit mask");
        for (int attribute = 0; attribute < 4; attribute++) {
            int all = (1 << Check.SIZES[attribute]) - 1;
            for (int set = 1; set < all; set++) {
                for (int index : new int[] {0, 3, 7}) {
                    PolicyComparer x = Check.loaded("new;" + "deny;".repeat(8));
                    String call = call("setTarget", 1, index, attribute, set);
                    check.due(call, x.setTarget(1, index, attribute, set), all);
                    check.due(call + ", then its rest", x.setTarget(1, index, attribute, all & ~set), set);
                    oneSetChanged(check, call, x, index, attribute, all & ~set);
                }
            }
        }
        return check;
    }

    private static void oneSetChanged(Check check, String call, PolicyComparer x, int index, int attribute, int set) {
        for (int i = 0; i < 8; i++) {
            for (int a = 0; a < 4; a++) {
                int due = i == index && a == attribute ? set : (1 << Check.SIZES[a]) - 1;
                check.due(call("targetOf", 1, i, a) + " after " + call, x.targetOf(1, i, a), due);
            }
        }
    }

    private static Check sameSet() {
        Check check = new Check("promise 10: NO_CHANGE if the rule already has this set");
        for (int attribute = 0; attribute < 4; attribute++) {
            int all = (1 << Check.SIZES[attribute]) - 1;
            PolicyComparer x = Check.loaded("permit;permit;");
            check.due("the full set again", x.setTarget(0, 1, attribute, all), -3);
            check.due("historySize()", x.historySize(), 0);
            for (int set = 1; set < all; set++) {
                check.holds("a new set", x.setTarget(0, 1, attribute, set) > 0);
                if (set < 100) {
                    check.due("the same set again", x.setTarget(0, 1, attribute, set), -3);
                }
            }
            check.due("the other rule's set", x.setTarget(0, 0, attribute, all), -3);
        }
        return check;
    }

    // ---- promise 11

    private static Check flipped() {
        Check check = new Check("promise 11: from PERMIT to DENY or from DENY to PERMIT; Returns the new effect");
        for (int policy = 0; policy < 2; policy++) {
            for (int index = 0; index < 8; index++) {
                PolicyComparer x = numbered(policy, 8);
                String call = call("flipEffect", policy, index);
                check.due(call, x.flipEffect(policy, index), 1 - index % 2);
                List<String> due = numbers(8);
                due.set(index, (1 - index % 2) + due.get(index).substring(1));
                rulesAre(check, call, x, policy, due);
                check.due(call + " again", x.flipEffect(policy, index), index % 2);
                rulesAre(check, call + " again", x, policy, numbers(8));
                check.due("historySize()", x.historySize(), 2);
            }
        }
        return check;
    }

    // ---- promise 12

    private static Check copied() {
        Check check = new Check("promise 12: Makes the new policy a copy of the old one; Returns the number of its rules");
        for (int count = 0; count <= 8; count++) {
            for (int before : new int[] {0, 1, 8}) {
                PolicyComparer x = Check.loaded("deny:a1;".repeat(count) + "useonlyone;new;" + "permit:l2;".repeat(before));
                check.due("copyOldToNew() of " + count, x.copyOldToNew(), count);
                String old = "use3" + " 1:255:2:255:15".repeat(count);
                check.sameText("the copy of " + count, Check.state(x), "0 " + old + ";1 " + old + ";1");
                check.due("undo()", x.undo(), 0);
                check.due("ruleCount(1) after undo", x.ruleCount(1), before);
                check.due("algorithmOf(1) after undo", x.algorithmOf(1), 0);
            }
        }
        return check;
    }

    private static Check copiedSame() {
        Check check = new Check("promise 12: This is an edit even if both are already the same");
        for (String text : new String[] {"", "permit;new;permit;", "deny;".repeat(8) + "new;" + "deny;".repeat(8)}) {
            PolicyComparer x = Check.loaded(text);
            String before = Check.policies(x);
            for (int copies = 1; copies <= 5; copies++) {
                check.due("copyOldToNew()", x.copyOldToNew(), x.ruleCount(0));
                check.due("historySize()", x.historySize(), Math.min(copies, 4));
            }
            for (int left = 3; left >= 0; left--) {
                check.due("undo()", x.undo(), left);
            }
            check.sameText("the policies", Check.policies(x), before);
        }
        return check;
    }
}
