/** The four worked examples of the document, and its constants. */
public final class ExamplesTest {
    public static void main(String[] args) {
        Check.finish(initialPolicies(), redundantRules(), copyAndUndo(), malformedText(), constants());
    }

    private static Check initialPolicies() {
        Check check = new Check("example 1");
        PolicyComparer x = new PolicyComparer();
        check.due("decide(0, 0)", x.decide(0, 0), 0);
        check.due("decide(0, 96)", x.decide(0, 96), 1);
        check.due("decide(1, 512)", x.decide(1, 512), 2);
        check.due("gainCount()", x.gainCount(), 152);
        check.due("nextGain(0)", x.nextGain(0), 16);
        check.due("leastRemoval()", x.leastRemoval(), 5);
        return check;
    }

    private static Check redundantRules() {
        Check check = new Check("example 2");
        PolicyComparer x = new PolicyComparer();
        check.due("isRedundant(1, 2)", x.isRedundant(1, 2), 0);
        check.due("witness(1, 1)", x.witness(1, 1), 112);
        check.due("irredundantCore(1)", x.irredundantCore(1), 7);
        check.due("isRedundant(1, 3)", x.isRedundant(1, 3), -1);
        return check;
    }

    private static Check copyAndUndo() {
        Check check = new Check("example 3");
        PolicyComparer x = new PolicyComparer();
        check.due("copyOldToNew()", x.copyOldToNew(), 2);
        check.due("gainCount()", x.gainCount(), 0);
        check.due("setAlgorithm(1, 3)", x.setAlgorithm(1, 3), 1);
        check.due("decisionCount(1, 3)", x.decisionCount(1, 3), 32);
        check.due("decide(1, 96)", x.decide(1, 96), 3);
        check.due("undo()", x.undo(), 1);
        check.due("undo()", x.undo(), 0);
        check.due("undo()", x.undo(), -3);
        return check;
    }

    private static Check malformedText() {
        Check check = new Check("example 4");
        PolicyComparer x = new PolicyComparer();
        String text = "new;permit:s8;";
        for (int i = 0; i < text.length(); i++) {
            check.due("append(" + (int) text.charAt(i) + ")", x.append(text.charAt(i)), i + 1);
        }
        check.due("syntaxError()", x.syntaxError(), 4);
        check.due("load()", x.load(), -3);
        return check;
    }

    private static Check constants() {
        Check check = new Check("constants");
        check.due("INVALID_ARGUMENT", PolicyComparer.INVALID_ARGUMENT, -1);
        check.due("LIMIT_REACHED", PolicyComparer.LIMIT_REACHED, -2);
        check.due("NO_CHANGE", PolicyComparer.NO_CHANGE, -3);
        check.due("NOT_FOUND", PolicyComparer.NOT_FOUND, -4);
        check.due("PERMIT", PolicyComparer.PERMIT, 0);
        check.due("DENY", PolicyComparer.DENY, 1);
        check.due("NOT_APPLICABLE", PolicyComparer.NOT_APPLICABLE, 2);
        check.due("INDETERMINATE", PolicyComparer.INDETERMINATE, 3);
        check.due("FIRST_APPLICABLE", PolicyComparer.FIRST_APPLICABLE, 0);
        check.due("DENY_OVERRIDES", PolicyComparer.DENY_OVERRIDES, 1);
        check.due("PERMIT_OVERRIDES", PolicyComparer.PERMIT_OVERRIDES, 2);
        check.due("ONLY_ONE", PolicyComparer.ONLY_ONE, 3);
        check.due("MAJORITY", PolicyComparer.MAJORITY, 4);
        return check;
    }
}
