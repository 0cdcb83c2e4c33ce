import java.util.function.Supplier;
import java.util.function.ToIntFunction;

/** The order of errors, and that a refused call changes nothing, whatever the error and the object's state. */
public final class ErrorEdgesTest {
    public static void main(String[] args) {
        Check.finish(invalidBeforeLimit(), invalidBeforeNoChange(), invalidBeforeNotFound(), limitReached(), noChange(),
            notFound());
    }

    // ---- objects with every limit reached, and with nothing to find

    /** Eight rules in the new policy and a full history. */
    private static PolicyComparer full() {
        PolicyComparer x = Check.loaded("deny:r3;new;" + "permit;".repeat(8));
        x.setAlgorithm(0, 2);
        x.setTarget(1, 7, 0, 3);
        x.flipEffect(1, 6);
        x.setTarget(1, 7, 3, 8);
        return x;
    }

    /** A text of 240 characters and an edit to undo. */
    private static PolicyComparer fullText() {
        PolicyComparer x = Check.withText("old;".repeat(57) + "permit:s012;");
        x.removeRule(1, 0);
        return x;
    }

    /** Both policies permit all by two rules that are alike, so nothing gains or loses and no rule matters. */
    private static PolicyComparer alike() {
        PolicyComparer x = Check.loaded("permit;permit;");
        x.copyOldToNew();
        return x;
    }

    private static PolicyComparer empty() {
        PolicyComparer x = Check.loaded("");
        x.copyOldToNew();
        return x;
    }

    private static void refused(Check check, String call, Supplier<PolicyComparer> fresh, int due,
        ToIntFunction<PolicyComparer> asked) {
        PolicyComparer x = fresh.get();
        check.due(call, asked.applyAsInt(x), due);
        check.due(call + " again", asked.applyAsInt(x), due);
        check.sameText("the object after " + call, Check.tale(x), Check.tale(fresh.get()));
    }

    // ---- the order of errors: no call has both LIMIT_REACHED and NO_CHANGE, nor both NO_CHANGE and NOT_FOUND

    private static Check invalidBeforeLimit() {
        Check check = new Check("INVALID_ARGUMENT is returned rather than LIMIT_REACHED");
        for (int character : new int[] {Check.MIN, -1, 0, 31, 127, 128, 32 + 256, Check.MAX}) {
            refused(check, "append(" + character + ") at 240", ErrorEdgesTest::fullText, -1, x -> x.append(character));
        }
        for (int wrong : new int[] {Check.MIN, -1, 2, Check.MAX}) {
            refused(check, "addRule(" + wrong + ", 0, 0) at 8", ErrorEdgesTest::full, -1, x -> x.addRule(wrong, 0, 0));
            refused(check, "addRule(1, 0, " + wrong + ") at 8", ErrorEdgesTest::full, -1, x -> x.addRule(1, 0, wrong));
        }
        for (int wrong : new int[] {Check.MIN, -1, 9, Check.MAX}) {
            refused(check, "addRule(1, " + wrong + ", 0) at 8", ErrorEdgesTest::full, -1, x -> x.addRule(1, wrong, 0));
        }
        return check;
    }

    private static Check invalidBeforeNoChange() {
        Check check = new Check("INVALID_ARGUMENT .. rather than NO_CHANGE");
        for (int wrong : new int[] {Check.MIN, -1, 2, Check.MAX}) {
            refused(check, "moveRule(" + wrong + ", 0, 0)", ErrorEdgesTest::alike, -1, x -> x.moveRule(wrong, 0, 0));
            refused(check, "moveRule(0, " + wrong + ", same)", ErrorEdgesTest::alike, -1, x -> x.moveRule(0, wrong, wrong));
            refused(check, "moveRule(1, " + wrong + ", same)", ErrorEdgesTest::alike, -1, x -> x.moveRule(1, wrong, wrong));
            refused(check, "setAlgorithm(" + wrong + ", 0)", ErrorEdgesTest::alike, -1, x -> x.setAlgorithm(wrong, 0));
            refused(check, "setTarget(" + wrong + ", 0, 0, 255)", ErrorEdgesTest::alike, -1, x -> x.setTarget(wrong, 0, 0, 255));
            refused(check, "setTarget(0, " + wrong + ", 0, 255)", ErrorEdgesTest::alike, -1, x -> x.setTarget(0, wrong, 0, 255));
        }
        for (int wrong : new int[] {Check.MIN, -1, 4, Check.MAX}) {
            refused(check, "setTarget(0, 0, " + wrong + ", 255)", ErrorEdgesTest::alike, -1, x -> x.setTarget(0, 0, wrong, 255));
            refused(check, "setTarget(0, 0, " + wrong + ", 15)", ErrorEdgesTest::alike, -1, x -> x.setTarget(0, 0, wrong, 15));
        }
        refused(check, "moveRule(0, 0, 0) of no rules", ErrorEdgesTest::empty, -1, x -> x.moveRule(0, 0, 0));
        refused(check, "moveRule(1, 8, 8) of eight rules", ErrorEdgesTest::full, -1, x -> x.moveRule(1, 8, 8));
        return check;
    }

    private static Check invalidBeforeNotFound() {
        Check check = new Check("INVALID_ARGUMENT .. rather than NOT_FOUND");
        for (int wrong : new int[] {Check.MIN, -1, 1024, Check.MAX}) {
            refused(check, "nextGain(" + wrong + ")", ErrorEdgesTest::alike, -1, x -> x.nextGain(wrong));
            refused(check, "nextLoss(" + wrong + ")", ErrorEdgesTest::alike, -1, x -> x.nextLoss(wrong));
        }
        for (int wrong : new int[] {Check.MIN, -1, 2, Check.MAX}) {
            refused(check, "witness(" + wrong + ", 0)", ErrorEdgesTest::alike, -1, x -> x.witness(wrong, 0));
            refused(check, "witness(0, " + wrong + ")", ErrorEdgesTest::alike, -1, x -> x.witness(0, wrong));
            refused(check, "witness(1, " + wrong + ")", ErrorEdgesTest::alike, -1, x -> x.witness(1, wrong));
        }
        refused(check, "witness(0, 0) of no rules", ErrorEdgesTest::empty, -1, x -> x.witness(0, 0));
        return check;
    }

    // ---- a call that returns an error changes nothing

    private static Check limitReached() {
        Check check = new Check("A call that returns an error changes nothing: LIMIT_REACHED");
        for (int character : new int[] {32, ';', 'x', 126}) {
            refused(check, "append(" + character + ") at 240", ErrorEdgesTest::fullText, -2, x -> x.append(character));
        }
        for (int index = 0; index <= 8; index++) {
            int at = index;
            refused(check, "addRule(1, " + at + ", 0) at 8", ErrorEdgesTest::full, -2, x -> x.addRule(1, at, 0));
            refused(check, "addRule(1, " + at + ", 1) at 8", ErrorEdgesTest::full, -2, x -> x.addRule(1, at, 1));
        }
        return check;
    }

    private static Check noChange() {
        Check check = new Check("A call that returns an error changes nothing: NO_CHANGE");
        for (int policy = 0; policy < 2; policy++) {
            int p = policy;
            refused(check, "moveRule(" + p + ", 1, 1)", ErrorEdgesTest::alike, -3, x -> x.moveRule(p, 1, 1));
            refused(check, "setAlgorithm(" + p + ", 0)", ErrorEdgesTest::alike, -3, x -> x.setAlgorithm(p, 0));
            refused(check, "setTarget(" + p + ", 1, 0, 255)", ErrorEdgesTest::alike, -3, x -> x.setTarget(p, 1, 0, 255));
            refused(check, "setTarget(" + p + ", 0, 3, 15)", ErrorEdgesTest::alike, -3, x -> x.setTarget(p, 0, 3, 15));
        }
        refused(check, "moveRule(1, 7, 7) of eight", ErrorEdgesTest::full, -3, x -> x.moveRule(1, 7, 7));
        refused(check, "setAlgorithm(0, 2) in a full history", ErrorEdgesTest::full, -3, x -> x.setAlgorithm(0, 2));
        refused(check, "setTarget(1, 7, 3, 8) in a full history", ErrorEdgesTest::full, -3, x -> x.setTarget(1, 7, 3, 8));
        refused(check, "undo() of none", () -> Check.withText("deny;"), -3, PolicyComparer::undo);
        refused(check, "load() of a malformed text", () -> malformed("usemajority;deny;new;x;"), -3, PolicyComparer::load);
        refused(check, "load() of a ninth rule", () -> malformed("new;" + "deny;".repeat(9)), -3, PolicyComparer::load);
        return check;
    }

    private static PolicyComparer malformed(String text) {
        PolicyComparer x = Check.withText(text);
        for (int edit = 0; edit < 4; edit++) {
            x.setTarget(1, 0, 0, 8 + edit);
        }
        return x;
    }

    private static Check notFound() {
        Check check = new Check("A call that returns an error changes nothing: NOT_FOUND");
        refused(check, "nextGain(0)", ErrorEdgesTest::alike, -4, x -> x.nextGain(0));
        refused(check, "nextLoss(1023)", ErrorEdgesTest::alike, -4, x -> x.nextLoss(1023));
        refused(check, "witness(0, 1)", ErrorEdgesTest::alike, -4, x -> x.witness(0, 1));
        refused(check, "witness(1, 0)", ErrorEdgesTest::alike, -4, x -> x.witness(1, 0));
        refused(check, "nextGain(0) of no rules", ErrorEdgesTest::empty, -4, x -> x.nextGain(0));
        refused(check, "nextLoss(0) of no rules", ErrorEdgesTest::empty, -4, x -> x.nextLoss(0));
        refused(check, "syntaxError()", ErrorEdgesTest::alike, -4, PolicyComparer::syntaxError);
        refused(check, "syntaxError() of 240 characters", ErrorEdgesTest::fullText, -4, PolicyComparer::syntaxError);
        return check;
    }
}
