/** The boundary cases of the history, sentence by sentence: promises 13 and 32, and the life of an object. */
public final class HistoryEdgesTest {
    private static final int KINDS = 7;

    public static void main(String[] args) {
        Check.finish(emptyHistory(), lastFour(), oldestOfFour(), lastEdits(), latestNotUndone(), left(), sizes(),
            editsAlone(), refusedEdits(), everyCallInRange());
    }

    /** One of the seven kinds of edits, which changes something in this policy; the last kind only in the new one. */
    private static int edit(PolicyComparer x, int kind, int policy) {
        return switch (kind) {
            case 0 -> x.addRule(policy, 0, 1);
            case 1 -> x.removeRule(policy, 0);
            case 2 -> x.moveRule(policy, 0, 1);
            case 3 -> x.setAlgorithm(policy, (x.algorithmOf(policy) + 1) % 5);
            case 4 -> x.setTarget(policy, 0, 3, x.targetOf(policy, 0, 3) % 15 + 1);
            case 5 -> x.flipEffect(policy, 0);
            default -> x.copyOldToNew();
        };
    }

    private static PolicyComparer fourRules() {
        return Check.loaded("permit:s0;deny:s1;permit:s2;deny:s3;usemajority;new;deny:a0;permit:a1;deny:a2;permit:a3;");
    }

    private static Check emptyHistory() {
        Check check = new Check("promise 13: NO_CHANGE if there is none");
        for (PolicyComparer x : new PolicyComparer[] {new PolicyComparer(), fourRules(), Check.loaded("")}) {
            String before = Check.state(x);
            check.due("undo()", x.undo(), -3);
            check.due("undo() again", x.undo(), -3);
            check.sameText("the state", Check.state(x), before);
            x.copyOldToNew();
            check.due("undo() of one", x.undo(), 0);
            check.due("undo() behind it", x.undo(), -3);
            check.sameText("the state", Check.state(x), before);
        }
        return check;
    }

    private static Check lastFour() {
        Check check = new Check("The last 4 edits can be undone");
        for (int edits = 0; edits <= 12; edits++) {
            PolicyComparer x = Check.loaded("permit;new;deny;");
            String[] before = new String[edits + 1];
            for (int i = 0; i < edits; i++) {
                before[i] = Check.policies(x);
                x.setTarget(i % 2, 0, 2, i + 1);
            }
            before[edits] = Check.policies(x);
            int kept = Math.min(edits, 4);
            for (int left = kept - 1; left >= 0; left--) {
                check.due("undo() after " + edits, x.undo(), left);
                check.sameText("the policies", Check.policies(x), before[edits - kept + left]);
            }
            check.due("one undo() too many after " + edits, x.undo(), -3);
            check.sameText("the policies then", Check.policies(x), before[edits - kept]);
        }
        return check;
    }

    /** Each kind of edit is brought back as the fourth of the last, and stays done as the fifth. */
    private static Check oldestOfFour() {
        Check check = new Check("addRule, removeRule, moveRule, setAlgorithm, setTarget, flipEffect and copyOldToNew are edits");
        for (int kind = 0; kind < KINDS; kind++) {
            for (int policy = 0; policy < 2; policy++) {
                for (int later = 0; later <= 4; later++) {
                    PolicyComparer x = fourRules();
                    String before = Check.policies(x);
                    check.holds("edit " + kind + " is done", edit(x, kind, policy) >= 0);
                    String after = Check.policies(x);
                    check.due("historySize()", x.historySize(), 1);
                    for (int i = 0; i < later; i++) {
                        x.setTarget(i % 2, 1, 2, i + 1);
                    }
                    for (int i = 0; i < 5; i++) {
                        x.undo();
                    }
                    check.sameText("edit " + kind + " and " + later + " more undone", Check.policies(x),
                        later == 4 ? after : before);
                }
            }
        }
        return check;
    }

    /** Each pair of kinds one after the other, then undone one by one. */
    private static Check lastEdits() {
        Check check = new Check("promise 13: Undoes the latest edit");
        for (int pair = 0; pair < KINDS * KINDS * 4; pair++) {
            PolicyComparer x = fourRules();
            String first = Check.policies(x);
            edit(x, pair / 4 % KINDS, pair & 1);
            String second = Check.policies(x);
            edit(x, pair / 4 / KINDS, pair >> 1 & 1);
            check.due("undo()", x.undo(), 1);
            check.sameText("the policies after one undo", Check.policies(x), second);
            check.due("undo()", x.undo(), 0);
            check.sameText("the policies after two", Check.policies(x), first);
        }
        return check;
    }

    private static Check latestNotUndone() {
        Check check = new Check("promise 13: the latest edit that has not been undone");
        PolicyComparer x = fourRules();
        String[] states = new String[3];
        for (int i = 0; i < 3; i++) {
            states[i] = Check.policies(x);
            x.setTarget(0, 0, 0, 2 + i);
        }
        x.undo();
        x.undo();
        check.sameText("after two undos", Check.policies(x), states[1]);
        x.setAlgorithm(1, 2);
        x.flipEffect(1, 1);
        x.flipEffect(1, 2);
        check.due("historySize() filled again", x.historySize(), 4);
        for (int i = 0; i < 3; i++) {
            x.undo();
        }
        check.sameText("after the later edits' undos", Check.policies(x), states[1]);
        check.due("undo() of the first", x.undo(), 0);
        check.sameText("after the first one's", Check.policies(x), states[0]);
        check.due("undo() of none", x.undo(), -3);
        return check;
    }

    private static Check left() {
        Check check = new Check("promise 13: Returns the number of edits that can still be undone");
        PolicyComparer x = fourRules();
        for (int round = 0; round < 5; round++) {
            for (int edits = 1; edits <= 5; edits++) {
                for (int i = 0; i < edits; i++) {
                    x.flipEffect(1, i % 4);
                }
                for (int left = Math.min(edits, 4) - 1; left >= 0; left--) {
                    check.due("undo()", x.undo(), left);
                    check.due("historySize()", x.historySize(), left);
                }
                check.due("undo() of none", x.undo(), -3);
            }
        }
        return check;
    }

    private static Check sizes() {
        Check check = new Check("promise 32: Returns 0 to 4");
        PolicyComparer x = fourRules();
        check.due("historySize()", x.historySize(), 0);
        for (int i = 1; i <= 20; i++) {
            edit(x, i % 2 == 0 ? 5 : 3, i % 2);
            check.due("historySize() after " + i, x.historySize(), Math.min(i, 4));
        }
        for (int i = 3; i >= -3; i--) {
            x.undo();
            check.due("historySize() after undo", x.historySize(), Math.max(i, 0));
        }
        return check;
    }

    private static Check editsAlone() {
        Check check = new Check("promise 32: the number of edits that can be undone (no other call is an edit)");
        PolicyComparer x = Check.withText("old");
        x.flipEffect(0, 0);
        String before = Check.state(x);
        x.append(';');
        x.syntaxError();
        x.clearText();
        for (int policy = 0; policy < 2; policy++) {
            x.decide(policy, 7);
            x.decisionCount(policy, 0);
            x.applicableRules(policy, 7);
            x.grantedShareBits(policy);
            x.isRedundant(policy, 1);
            x.witness(policy, 1);
            x.irredundantCore(policy);
        }
        x.gainCount();
        x.lossCount();
        x.gainCountOf(0, 1);
        x.nextGain(0);
        x.nextLoss(0);
        x.transitionCount(0, 1);
        x.leastRemoval();
        check.sameText("the state", Check.state(x), before);
        check.due("undo()", x.undo(), 0);
        check.sameText("the policies", Check.policies(x), Check.policies(new PolicyComparer()));
        return check;
    }

    /** An edit that was refused takes no place in a full history, so the oldest edit can still be undone. */
    private static Check refusedEdits() {
        Check check = new Check("A call that returns an error changes nothing (in a full history)");
        PolicyComparer x = Check.loaded("new;" + "deny;".repeat(8));
        String before = Check.policies(x);
        for (int i = 0; i < 4; i++) {
            x.flipEffect(1, i);
        }
        check.due("addRule", x.addRule(1, 0, 0), -2);
        check.due("removeRule", x.removeRule(0, 0), -1);
        check.due("moveRule", x.moveRule(1, 2, 2), -3);
        check.due("setAlgorithm", x.setAlgorithm(1, 0), -3);
        check.due("setTarget", x.setTarget(1, 0, 0, 255), -3);
        check.due("flipEffect", x.flipEffect(1, 8), -1);
        for (int left = 3; left >= 0; left--) {
            check.due("undo()", x.undo(), left);
        }
        check.sameText("the policies", Check.policies(x), before);
        return check;
    }

    /** The 512th call of an object answers as well as any before it. */
    private static Check everyCallInRange() {
        Check check = new Check("An object is used for at most 512 calls after it has been made");
        PolicyComparer flips = new PolicyComparer();
        PolicyComparer texts = new PolicyComparer();
        PolicyComparer loads = new PolicyComparer();
        PolicyComparer undos = new PolicyComparer();
        PolicyComparer cores = new PolicyComparer();
        PolicyComparer removals = new PolicyComparer();
        for (int call = 1; call <= 512; call++) {
            check.due("flipEffect, call " + call, flips.flipEffect(0, 0), call % 2);
            check.due("append, call " + call, texts.append('o'), call <= 240 ? call : -2);
            check.due("load, call " + call, loads.load(), 0);
            check.due("edit or undo, call " + call, call % 2 == 1 ? undos.copyOldToNew() : undos.undo(), call % 2 * 2);
            check.due("irredundantCore, call " + call, cores.irredundantCore(1), 7);
            check.due("leastRemoval, call " + call, removals.leastRemoval(), 5);
        }
        return check;
    }
}
