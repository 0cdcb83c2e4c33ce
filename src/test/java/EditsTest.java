/** Promises 6 to 13 and 32, ordinary inputs: the edits, undo and the history. */
public final class EditsTest {
    public static void main(String[] args) {
        Check.finish(addRule(), removeRule(), moveRule(), setAlgorithm(), setTarget(), flipEffect(), copyOldToNew(),
            undo(), historySize(), untouched());
    }

    /** Five rules in the new policy that differ in their targets, so that their order shows. */
    private static PolicyComparer fiveRules() {
        return Check.loaded("new;permit:s0;deny:s1;permit:s2;deny:s3;permit:s4;");
    }

    private static String order(PolicyComparer x, int policy) {
        StringBuilder order = new StringBuilder();
        for (int index = 0; index < x.ruleCount(policy); index++) {
            order.append(x.effectOf(policy, index) == 0 ? 'p' : 'd');
            order.append(x.targetOf(policy, index, 0)).append(' ');
        }
        return order.toString().trim();
    }

    private static Check addRule() {
        Check check = new Check("promise 6");
        PolicyComparer x = fiveRules();
        check.due("addRule(1, 2, 1)", x.addRule(1, 2, 1), 6);
        check.sameText("in the middle", order(x, 1), "p1 d2 d255 p4 d8 p16");
        check.due("addRule(1, 0, 0)", x.addRule(1, 0, 0), 7);
        check.due("addRule(1, 7, 1)", x.addRule(1, 7, 1), 8);
        check.sameText("at both ends", order(x, 1), "p255 p1 d2 d255 p4 d8 p16 d255");
        check.due("targetOf(1, 7, 1)", x.targetOf(1, 7, 1), 15);
        check.due("targetOf(1, 7, 2)", x.targetOf(1, 7, 2), 255);
        check.due("targetOf(1, 7, 3)", x.targetOf(1, 7, 3), 15);
        String before = Check.state(x);
        check.due("addRule(1, 0, 0) at 8", x.addRule(1, 0, 0), -2);
        check.due("addRule(1, 8, 1) at 8", x.addRule(1, 8, 1), -2);
        check.due("addRule(1, 9, 1) at 8", x.addRule(1, 9, 1), -1);
        check.due("addRule(1, -1, 1) at 8", x.addRule(1, -1, 1), -1);
        check.due("addRule(1, 0, 2) at 8", x.addRule(1, 0, 2), -1);
        check.due("addRule(0, 1, 0) on no rules", x.addRule(0, 1, 0), -1);
        check.sameText("the state after errors", Check.state(x), before);
        check.due("addRule(0, 0, 0)", x.addRule(0, 0, 0), 1);
        check.sameText("the old policy", order(x, 0), "p255");
        return check;
    }

    private static Check removeRule() {
        Check check = new Check("promise 7");
        PolicyComparer x = fiveRules();
        check.due("removeRule(1, 1)", x.removeRule(1, 1), 4);
        check.sameText("from the middle", order(x, 1), "p1 p4 d8 p16");
        check.due("removeRule(1, 3)", x.removeRule(1, 3), 3);
        check.due("removeRule(1, 0)", x.removeRule(1, 0), 2);
        check.sameText("from both ends", order(x, 1), "p4 d8");
        check.due("removeRule(0, 0) of no rules", x.removeRule(0, 0), -1);
        x.removeRule(1, 0);
        check.due("removeRule(1, 0), the last one", x.removeRule(1, 0), 0);
        check.due("decisionCount(1, 2) of no rules", x.decisionCount(1, 2), 1024);
        PolicyComparer full = Check.loaded("permit:s7;".repeat(7) + "deny:s6;");
        check.due("removeRule(0, 7) of 8", full.removeRule(0, 7), 7);
        check.due("addRule(0, 7, 0) after it", full.addRule(0, 7, 0), 8);
        check.due("effectOf(0, 7)", full.effectOf(0, 7), 0);
        check.due("targetOf(0, 7, 0)", full.targetOf(0, 7, 0), 255);
        return check;
    }

    private static Check moveRule() {
        Check check = new Check("promise 8");
        PolicyComparer x = fiveRules();
        check.due("moveRule(1, 1, 3)", x.moveRule(1, 1, 3), 1);
        check.sameText("up", order(x, 1), "p1 p4 d8 d2 p16");
        check.due("moveRule(1, 4, 0)", x.moveRule(1, 4, 0), 0);
        check.sameText("to the front", order(x, 1), "p16 p1 p4 d8 d2");
        check.due("moveRule(1, 0, 4)", x.moveRule(1, 0, 4), 0);
        check.sameText("to the end", order(x, 1), "p1 p4 d8 d2 p16");
        check.due("moveRule(1, 3, 2)", x.moveRule(1, 3, 2), 1);
        check.sameText("down by one", order(x, 1), "p1 p4 d2 d8 p16");
        String before = Check.state(x);
        check.due("moveRule(1, 2, 2)", x.moveRule(1, 2, 2), -3);
        check.due("moveRule(1, 5, 5)", x.moveRule(1, 5, 5), -1);
        check.due("moveRule(0, 0, 0) on no rules", x.moveRule(0, 0, 0), -1);
        check.sameText("the state after errors", Check.state(x), before);
        PolicyComparer full = Check.loaded("deny:s0;permit:s1;permit:s2;permit:s3;permit:s4;permit:s5;permit:s6;deny:s7;");
        check.due("moveRule(0, 7, 0) of 8", full.moveRule(0, 7, 0), 1);
        check.sameText("the last of 8 to the front", order(full, 0), "d128 d1 p2 p4 p8 p16 p32 p64");
        return check;
    }

    private static Check setAlgorithm() {
        Check check = new Check("promise 9");
        PolicyComparer x = new PolicyComparer();
        int before = 1;
        for (int algorithm : new int[] {0, 2, 4, 3, 1}) {
            check.due("setAlgorithm(0, " + algorithm + ")", x.setAlgorithm(0, algorithm), before);
            check.due("algorithmOf(0)", x.algorithmOf(0), algorithm);
            check.due("setAlgorithm(0, " + algorithm + ") again", x.setAlgorithm(0, algorithm), -3);
            before = algorithm;
        }
        check.due("algorithmOf(1)", x.algorithmOf(1), 0);
        check.due("setAlgorithm(1, 0)", x.setAlgorithm(1, 0), -3);
        return check;
    }

    private static Check setTarget() {
        Check check = new Check("promise 10");
        PolicyComparer x = new PolicyComparer();
        check.due("setTarget(0, 0, 0, 255)", x.setTarget(0, 0, 0, 255), 3);
        check.due("setTarget(0, 0, 1, 8)", x.setTarget(0, 0, 1, 8), 15);
        check.due("setTarget(0, 0, 2, 128)", x.setTarget(0, 0, 2, 128), 15);
        check.due("setTarget(0, 0, 3, 5)", x.setTarget(0, 0, 3, 5), 15);
        check.due("setTarget(0, 0, 3, 10)", x.setTarget(0, 0, 3, 10), 5);
        check.sameText("the state", Check.state(x),
            "0 use1 0:255:8:128:10 1:255:8:255:15;1 use0 0:7:15:15:15 1:255:8:255:3 0:1:15:255:15;4");
        check.due("setTarget(0, 0, 3, 10) again", x.setTarget(0, 0, 3, 10), -3);
        return check;
    }

    private static Check flipEffect() {
        Check check = new Check("promise 11");
        PolicyComparer x = new PolicyComparer();
        check.due("flipEffect(1, 1)", x.flipEffect(1, 1), 0);
        check.due("flipEffect(1, 2)", x.flipEffect(1, 2), 1);
        check.sameText("the effects", order(x, 1), "p7 p255 d1");
        check.due("flipEffect(1, 1) again", x.flipEffect(1, 1), 1);
        return check;
    }

    private static Check copyOldToNew() {
        Check check = new Check("promise 12");
        PolicyComparer x = new PolicyComparer();
        check.due("copyOldToNew()", x.copyOldToNew(), 2);
        check.sameText("the copy", Check.state(x), "0 use1 0:3:15:15:15 1:255:8:255:15;1 use1 0:3:15:15:15 1:255:8:255:15;1");
        check.due("copyOldToNew() again", x.copyOldToNew(), 2);
        check.due("historySize()", x.historySize(), 2);
        x.flipEffect(1, 0);
        x.removeRule(0, 1);
        check.sameText("two policies of their own", Check.state(x), "0 use1 0:3:15:15:15;1 use1 1:3:15:15:15 1:255:8:255:15;4");
        x.undo();
        x.undo();
        check.due("undo()", x.undo(), 1);
        check.due("undo()", x.undo(), 0);
        check.sameText("the state undone", Check.state(x), Check.state(new PolicyComparer()));
        PolicyComparer none = Check.loaded("new;permit;usemajority;");
        check.due("copyOldToNew() of no rules", none.copyOldToNew(), 0);
        check.sameText("the copy of no rules", Check.state(none), "0 use0;1 use0;1");
        return check;
    }

    private static Check undo() {
        Check check = new Check("promise 13");
        PolicyComparer x = new PolicyComparer();
        check.due("undo() on nothing", x.undo(), -3);
        String[] states = new String[8];
        Runnable[] edits = {() -> x.addRule(0, 1, 1), () -> x.moveRule(0, 0, 2), () -> x.setAlgorithm(1, 4),
            () -> x.setTarget(1, 2, 3, 6), () -> x.flipEffect(0, 0), () -> x.removeRule(1, 0), () -> x.copyOldToNew()};
        for (int i = 0; i < edits.length; i++) {
            states[i] = Check.policies(x);
            edits[i].run();
        }
        for (int left = 3; left >= 0; left--) {
            check.due("undo()", x.undo(), left);
            check.sameText("the policies with " + left + " left", Check.policies(x), states[3 + left]);
        }
        check.due("undo() beyond the fourth", x.undo(), -3);
        check.sameText("the policies then", Check.policies(x), states[3]);
        eachUndone(check);
        mixedUndo(check);
        return check;
    }

    /** Each kind of edit alone can be undone, in the old policy and in the new one. */
    private static void eachUndone(Check check) {
        String before = Check.state(new PolicyComparer());
        for (int policy = 0; policy < 2; policy++) {
            for (int kind = 0; kind < 7; kind++) {
                PolicyComparer x = new PolicyComparer();
                check.holds("edit " + kind + " of policy " + policy, someEdit(x, kind, policy) >= 0);
                check.due("historySize() after edit " + kind, x.historySize(), 1);
                check.holds("edit " + kind + " changed something", !Check.state(x).equals(before));
                check.due("undo() of edit " + kind, x.undo(), 0);
                check.sameText("the state after undo of edit " + kind, Check.state(x), before);
            }
        }
    }

    private static int someEdit(PolicyComparer x, int kind, int policy) {
        return switch (kind) {
            case 0 -> x.addRule(policy, 1, 1);
            case 1 -> x.removeRule(policy, 0);
            case 2 -> x.moveRule(policy, 0, 1);
            case 3 -> x.setAlgorithm(policy, 4);
            case 4 -> x.setTarget(policy, 1, 1, 5);
            case 5 -> x.flipEffect(policy, 1);
            default -> x.copyOldToNew();
        };
    }

    private static void mixedUndo(Check check) {
        PolicyComparer x = new PolicyComparer();
        x.flipEffect(0, 0);
        x.flipEffect(0, 1);
        check.due("undo() of the second", x.undo(), 1);
        x.setAlgorithm(0, 4);
        check.due("undo() of the third", x.undo(), 1);
        check.due("undo() of the first", x.undo(), 0);
        check.sameText("the state", Check.state(x), Check.state(new PolicyComparer()));
        Check.type(x, "old;");
        x.flipEffect(0, 0);
        x.undo();
        check.due("the text is not undone", x.clearText(), 4);
    }

    private static Check historySize() {
        Check check = new Check("promise 32");
        PolicyComparer x = new PolicyComparer();
        check.due("historySize() at first", x.historySize(), 0);
        for (int i = 1; i <= 6; i++) {
            x.flipEffect(0, 0);
            check.due("historySize() after " + i, x.historySize(), Math.min(i, 4));
        }
        x.undo();
        check.due("historySize() after undo", x.historySize(), 3);
        x.load();
        check.due("historySize() after load", x.historySize(), 0);
        return check;
    }

    /** Queries and the text's calls are no edits. */
    private static Check untouched() {
        Check check = new Check("queries");
        PolicyComparer x = new PolicyComparer();
        x.flipEffect(1, 2);
        String before = Check.state(x);
        x.leastRemoval();
        x.irredundantCore(0);
        x.irredundantCore(1);
        x.isRedundant(1, 0);
        x.witness(1, 0);
        x.gainCount();
        x.lossCount();
        x.append('n');
        x.syntaxError();
        x.load();
        x.clearText();
        check.sameText("the state", Check.state(x), before);
        return check;
    }
}
