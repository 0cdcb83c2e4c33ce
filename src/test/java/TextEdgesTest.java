/** The boundary cases of the policy text: what may stand in it, sentence by sentence, and promises 1 to 5. */
public final class TextEdgesTest {
    /** Every kind of statement once. */
    private static final String SAMPLE = "old;new;usefirst;usedenyover;usepermitover;useonlyone;usemajority;permit;deny;"
        + "permit:s07;deny:a03:l30;permit:r7:s1:l2:a0;";

    public static void main(String[] args) {
        Check.finish(newPolicies(), newText(), newHistory(), appendedLength(), fullBuffer(), fullBufferIsRead(),
            clearedLength(), clearedText(), firstMalformed(), noneMalformed(), noWhiteSpace(), missingSemicolon(),
            everyNeighbour(), ninthRule(), eightInEach(), loadedRules(), loadedAlgorithm(), keptText(), clearedHistory(),
            refusedLoad());
    }

    // ---- helpers

    private static void well(Check check, String text) {
        check.due("syntaxError() of '" + text + "'", Check.withText(text).syntaxError(), -4);
        check.holds("load() of '" + text + "'", Check.withText(text).load() >= 0);
    }

    private static void malformed(Check check, String text, int at) {
        check.due("syntaxError() of '" + text + "'", Check.withText(text).syntaxError(), at);
        check.due("load() of '" + text + "'", Check.withText(text).load(), -3);
    }

    /** Where the statement begins that the character at this place belongs to. */
    private static int startOf(String text, int place) {
        return text.lastIndexOf(';', place - 1) + 1;
    }

    /** Well-formed statements without any rule, with just so many characters (27 or more). */
    private static String filler(int length) {
        int uses = length % 4;
        return "new;".repeat((length - 9 * uses) / 4) + "usefirst;".repeat(uses);
    }

    // ---- promise 1

    private static Check newPolicies() {
        Check check = new Check("promise 1: Creates a comparer with the policies of the text permit:s01:r0123;deny:a3;..");
        String due = "0 use1 0:3:15:15:15 1:255:8:255:15;1 use0 0:7:15:15:15 1:255:8:255:3 0:1:15:255:15";
        check.sameText("the policies", Check.policies(new PolicyComparer()), due);
        PolicyComparer other = Check.loaded("permit;");
        other.addRule(0, 0, 1);
        check.sameText("the policies after another object's load", Check.policies(new PolicyComparer()), due);
        return check;
    }

    private static Check newText() {
        Check check = new Check("promise 1: an empty policy text");
        check.due("append", new PolicyComparer().append('o'), 1);
        check.due("clearText()", new PolicyComparer().clearText(), 0);
        check.due("syntaxError()", new PolicyComparer().syntaxError(), -4);
        check.due("load()", new PolicyComparer().load(), 0);
        return check;
    }

    private static Check newHistory() {
        Check check = new Check("promise 1: an empty history");
        check.due("historySize()", new PolicyComparer().historySize(), 0);
        check.due("undo()", new PolicyComparer().undo(), -3);
        return check;
    }

    // ---- promise 2

    private static Check appendedLength() {
        Check check = new Check("promise 2: Returns the new length of the text");
        PolicyComparer x = new PolicyComparer();
        for (int length = 1; length <= 240; length++) {
            check.due("append, character " + length, x.append(32 + length % 95), length);
        }
        return check;
    }

    private static Check fullBuffer() {
        Check check = new Check("promise 2: LIMIT_REACHED if the text already has 240 characters");
        PolicyComparer x = Check.withText(filler(239));
        check.due("append at 239", x.append(' '), 240);
        for (int character = 32; character <= 126; character++) {
            check.due("append(" + character + ") at 240", x.append(character), -2);
        }
        check.due("clearText()", x.clearText(), 240);
        check.due("append after it", x.append(126), 1);
        return check;
    }

    private static Check fullBufferIsRead() {
        Check check = new Check("The policy text is a character buffer of at most 240 characters");
        PolicyComparer x = Check.withText(filler(240 - 12) + "permit:s012;");
        check.due("append at 240", x.append(';'), -2);
        check.due("syntaxError()", x.syntaxError(), -4);
        check.due("load()", x.load(), 1);
        check.due("the last statement's target", x.targetOf(1, 0, 0), 7);
        // The semicolon would be the 241st character.
        PolicyComparer cut = Check.withText(filler(240 - 11) + "permit:s012;");
        check.due("syntaxError() of the cut text", cut.syntaxError(), 229);
        check.due("load() of the cut text", cut.load(), -3);
        for (String word : new String[] {"old", "new", "usemajority", "permit:a0123:l3:", "deny:r7"}) {
            for (int length = 1; length <= word.length(); length++) {
                malformed(check, filler(240 - length) + word.substring(0, length), 240 - length);
            }
        }
        return check;
    }

    // ---- promise 3

    private static Check clearedLength() {
        Check check = new Check("promise 3: Returns the length that the text had");
        for (int length : new int[] {0, 1, 2, 239, 240}) {
            check.due("clearText() at " + length, Check.withText("x".repeat(length)).clearText(), length);
        }
        check.due("clearText() at 240, one more refused", Check.withText("x".repeat(241)).clearText(), 240);
        return check;
    }

    private static Check clearedText() {
        Check check = new Check("promise 3: Empties the policy text");
        PolicyComparer x = Check.withText("permit:s01;x");
        check.due("syntaxError() before", x.syntaxError(), 11);
        x.clearText();
        check.due("clearText() again", x.clearText(), 0);
        check.due("syntaxError() after", x.syntaxError(), -4);
        // What stood there before must not complete the shorter text.
        Check.type(x, "permit:s0");
        check.due("syntaxError() of a text without its end", x.syntaxError(), 0);
        PolicyComparer full = Check.withText("x".repeat(240));
        full.clearText();
        Check.type(full, filler(240));
        check.due("syntaxError() of 240 characters after 240", full.syntaxError(), -4);
        check.due("load() of them", full.load(), 0);
        return check;
    }

    // ---- promise 4

    private static Check firstMalformed() {
        Check check = new Check("promise 4: the index of the first character of the first malformed statement");
        malformed(check, "x", 0);
        malformed(check, ";", 0);
        malformed(check, "old;;", 4);
        malformed(check, "old;;;new", 4);
        malformed(check, "permit:s8;permit:s9;", 0);
        malformed(check, "permit:s7;permit:s8;permit:s9;", 10);
        malformed(check, filler(239) + "x", 239);
        malformed(check, filler(239) + ";", 239);
        malformed(check, ";".repeat(240), 0);
        malformed(check, "x".repeat(240), 0);
        for (int at = 0; at < SAMPLE.length(); at++) {
            malformed(check, SAMPLE.substring(0, startOf(SAMPLE, at)) + "permit:s01234567:a01234;" + SAMPLE, startOf(SAMPLE, at));
        }
        return check;
    }

    private static Check noneMalformed() {
        Check check = new Check("promise 4: NOT_FOUND if no statement is malformed");
        well(check, "");
        well(check, SAMPLE);
        well(check, "old;");
        well(check, "old;".repeat(60));
        well(check, filler(240));
        well(check, "permit:s01234567:a0123:r01234567:l0123;".repeat(6) + "new;");
        well(check, "deny:l3210:r76543210:a3210:s76543210;".repeat(6));
        return check;
    }

    // ---- the grammar

    private static Check noWhiteSpace() {
        Check check = new Check("Its grammar is, without any white space");
        well(check, SAMPLE);
        for (int at = 0; at <= SAMPLE.length(); at++) {
            malformed(check, SAMPLE.substring(0, at) + " " + SAMPLE.substring(at), startOf(SAMPLE, at));
        }
        malformed(check, " ", 0);
        return check;
    }

    private static Check missingSemicolon() {
        Check check = new Check("A statement is malformed if its terminating \";\" is missing");
        for (int length = 0; length <= SAMPLE.length(); length++) {
            String text = SAMPLE.substring(0, length);
            if (text.isEmpty() || text.endsWith(";")) {
                well(check, text);
            } else {
                malformed(check, text, startOf(text, length));
            }
        }
        // A statement that is lacking its end takes the next one in.
        malformed(check, "oldnew;", 0);
        malformed(check, "old;permitdeny;", 4);
        malformed(check, "usefirstold;", 0);
        malformed(check, "permit:s0permit:s0;", 0);
        return check;
    }

    /** Each text that differs from the sample in one character is held against the model's reading. */
    private static Check everyNeighbour() {
        Check check = new Check("A statement is malformed if it does not match the grammar");
        for (int at = 0; at <= SAMPLE.length(); at++) {
            String before = SAMPLE.substring(0, at);
            String after = SAMPLE.substring(at);
            String rest = after.isEmpty() ? "" : after.substring(1);
            likeModel(check, before + rest);
            for (char character = 32; character <= 126; character++) {
                likeModel(check, before + character + after);
                likeModel(check, before + character + rest);
            }
        }
        return check;
    }

    private static void likeModel(Check check, String text) {
        PlainModel model = PlainModel.withText(text);
        PolicyComparer x = Check.withText(text);
        check.due("syntaxError() of '" + text + "'", x.syntaxError(), model.syntaxError());
        check.due("load() of '" + text + "'", x.load(), model.load());
    }

    // ---- the ninth rule

    private static Check ninthRule() {
        Check check = new Check("A statement is malformed if it would be the ninth rule of a policy");
        for (String ninth : new String[] {"permit;", "deny;", "permit:s0;", "deny:a3:l0;"}) {
            malformed(check, "deny;".repeat(8) + ninth, 40);
            malformed(check, "new;" + "deny;".repeat(8) + ninth, 44);
            malformed(check, "deny;".repeat(8) + "usefirst;" + ninth, 49);
            malformed(check, "deny;".repeat(8) + "old;" + ninth, 44);
            malformed(check, "deny;".repeat(8) + "new;deny;old;" + ninth, 53);
            malformed(check, "deny;new;" + "deny;".repeat(8) + "old;deny;new;" + ninth, 62);
        }
        malformed(check, "deny;".repeat(9) + "x;", 40);
        malformed(check, "deny;".repeat(8) + "x;deny;", 40);
        malformed(check, "deny;".repeat(7) + "x;deny;deny;", 35);
        // The object's own rules do not count.
        PolicyComparer x = Check.loaded("deny;".repeat(8));
        check.due("load() of eight rules over eight", x.load(), 8);
        return check;
    }

    private static Check eightInEach() {
        Check check = new Check("A policy is a list of 0 to 8 rules (in a text)");
        for (int old = 0; old <= 8; old++) {
            for (int added = 0; added <= 8; added++) {
                PolicyComparer x = Check.loaded("permit;".repeat(old) + "new;" + "deny;".repeat(added));
                check.due("ruleCount(0) of " + old, x.ruleCount(0), old);
                check.due("ruleCount(1) of " + added, x.ruleCount(1), added);
            }
        }
        well(check, "deny;".repeat(8) + "usefirst;new;old;usemajority;");
        well(check, "deny;new;deny;old;".repeat(8));
        return check;
    }

    // ---- promise 5

    private static Check loadedRules() {
        Check check = new Check("promise 5: Returns the number of rules of both policies together");
        for (int old = 0; old <= 8; old++) {
            for (int added = 0; added <= 8; added++) {
                String text = "new;" + "deny;".repeat(added) + "old;" + "permit;".repeat(old);
                check.due("load() of " + old + " and " + added, Check.withText(text).load(), old + added);
            }
        }
        return check;
    }

    private static Check loadedAlgorithm() {
        Check check = new Check("promise 5: FIRST_APPLICABLE if the text has no use statement for it");
        for (int algorithm = 1; algorithm < 5; algorithm++) {
            String use = "use" + Check.ALGORITHMS[algorithm] + ";";
            algorithms(check, "", 0, 0);
            algorithms(check, "new;old;permit;", 0, 0);
            algorithms(check, use, algorithm, 0);
            algorithms(check, "new;" + use, 0, algorithm);
            algorithms(check, use + "new;" + use, algorithm, algorithm);
        }
        return check;
    }

    private static void algorithms(Check check, String text, int old, int added) {
        PolicyComparer x = Check.loaded("usemajority;new;useonlyone;");
        x.clearText();
        Check.type(x, text);
        x.load();
        check.due("algorithmOf(0) of '" + text + "'", x.algorithmOf(0), old);
        check.due("algorithmOf(1) of '" + text + "'", x.algorithmOf(1), added);
    }

    private static Check keptText() {
        Check check = new Check("promise 5: The text is kept");
        check.due("clearText() after load of nothing", Check.loaded("").clearText(), 0);
        check.due("clearText() after load", Check.loaded("permit:s0;").clearText(), 10);
        check.due("clearText() after load of 240", Check.loaded(filler(240)).clearText(), 240);
        PolicyComparer x = Check.loaded("permit:s0;usemajority;");
        String loaded = Check.state(x);
        x.copyOldToNew();
        x.removeRule(0, 0);
        check.due("load() again", x.load(), 1);
        check.sameText("the state", Check.state(x), loaded);
        check.due("append behind it", x.append('n'), 23);
        check.due("syntaxError()", x.syntaxError(), 22);
        return check;
    }

    private static Check clearedHistory() {
        Check check = new Check("promise 5: the history becomes empty; Loading a text clears this history");
        for (int edits = 0; edits <= 5; edits++) {
            PolicyComparer x = Check.withText("new;permit;");
            for (int i = 0; i < edits; i++) {
                x.flipEffect(0, 0);
            }
            x.load();
            check.due("historySize() after " + edits, x.historySize(), 0);
            check.due("undo() after " + edits, x.undo(), -3);
            x.flipEffect(1, 0);
            check.due("historySize() of the next edit", x.historySize(), 1);
            check.due("undo() of it", x.undo(), 0);
            check.due("effectOf(1, 0)", x.effectOf(1, 0), 0);
        }
        return check;
    }

    private static Check refusedLoad() {
        Check check = new Check("promise 5: NO_CHANGE if a statement is malformed");
        for (String text : new String[] {"x", ";", "usemajority;permit;x", "new;permit:s8;", "deny;".repeat(9),
            filler(239) + "x"}) {
            PolicyComparer x = edited(text);
            check.due("load() of '" + text + "'", x.load(), -3);
            check.sameText("the object after '" + text + "'", Check.tale(x), Check.tale(edited(text)));
        }
        return check;
    }

    private static PolicyComparer edited(String text) {
        PolicyComparer x = Check.withText(text);
        x.setAlgorithm(0, 3);
        x.removeRule(1, 0);
        return x;
    }
}
