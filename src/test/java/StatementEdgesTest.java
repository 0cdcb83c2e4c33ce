/** The boundary cases of single statements: words, attributes, values and what the statements select. */
public final class StatementEdgesTest {
    private static final String LETTERS = "sarl";
    private static final String DIGITS = "01234567";
    private static final int[] ALL = {255, 15, 255, 15};

    public static void main(String[] args) {
        Check.finish(words(), algorithmWords(), attributeLetters(), digits(), atLeastOneDigit(), oldAtFirst(), selection(),
            laterUse(), appendedRules(), unconstrained(), oneConstraintEach(), digitTwice(), valueOfTheAttribute());
    }

    private static void well(Check check, String text, boolean due) {
        check.due("syntaxError() of '" + text + "'", Check.withText(text).syntaxError(), due ? -4 : 0);
        check.holds("load() of '" + text + "' agrees", Check.withText(text).load() >= 0 == due);
    }

    private static void word(Check check, String before, String word) {
        well(check, before + word + ";", true);
        well(check, before + word + word + ";", false);
        for (int length = 0; length < word.length(); length++) {
            well(check, before + word.substring(0, length) + ";", false);
        }
        for (int at = 0; at < word.length(); at++) {
            String upper = word.substring(at, at + 1).toUpperCase();
            well(check, before + word.substring(0, at) + upper + word.substring(at + 1) + ";", false);
        }
    }

    private static Check words() {
        Check check = new Check("statement = \"old\" | \"new\" | \"use\" algorithm | ( \"permit\" | \"deny\" ) { constraint }");
        for (String word : new String[] {"old", "new", "permit", "deny"}) {
            word(check, "", word);
        }
        for (String stranger : new String[] {"use", "old:s0", "new:s0", "usefirst:s0", "permitover", "denyover", "first",
            "s0", ":s0", "0"}) {
            well(check, stranger + ";", false);
        }
        return check;
    }

    private static Check algorithmWords() {
        Check check = new Check("algorithm = \"first\" | \"denyover\" | \"permitover\" | \"onlyone\" | \"majority\"");
        for (int algorithm = 0; algorithm < 5; algorithm++) {
            word(check, "use", Check.ALGORITHMS[algorithm]);
            PolicyComparer x = Check.loaded("use" + Check.ALGORITHMS[algorithm] + ";");
            check.due("algorithmOf(0) of " + Check.ALGORITHMS[algorithm], x.algorithmOf(0), algorithm);
        }
        return check;
    }

    private static Check attributeLetters() {
        Check check = new Check("The letters s, a, r and l stand for the attributes 0 to 3");
        for (char letter = 32; letter <= 126; letter++) {
            well(check, "permit:" + letter + "0;", LETTERS.indexOf(letter) >= 0);
        }
        for (int attribute = 0; attribute < 4; attribute++) {
            PolicyComparer x = Check.loaded("deny:" + LETTERS.charAt(attribute) + "2;");
            for (int asked = 0; asked < 4; asked++) {
                check.due("targetOf(0, 0, " + asked + ")", x.targetOf(0, 0, asked), asked == attribute ? 4 : ALL[asked]);
            }
        }
        return check;
    }

    private static Check digits() {
        Check check = new Check("digit = \"0\" to \"7\"");
        for (char digit = 32; digit <= 126; digit++) {
            boolean due = digit >= '0' && digit <= '7';
            well(check, "permit:s" + digit + ";", due);
            well(check, "deny:r" + digit + ";", due);
            if (digit != ';') {
                well(check, "deny:r" + (digit == '5' ? '4' : '5') + digit + ";", due);
            }
            check.holds("'" + digit + "' as a value", !due || valueSet("deny:r" + digit + ";", 2) == 1 << digit - '0');
        }
        return check;
    }

    private static int valueSet(String rule, int attribute) {
        return Check.loaded(rule).targetOf(0, 0, attribute);
    }

    private static Check atLeastOneDigit() {
        Check check = new Check("values = digit { digit }; for each attribute a non-empty set of values");
        for (int attribute = 0; attribute < 4; attribute++) {
            String constraint = ":" + LETTERS.charAt(attribute);
            well(check, "permit" + constraint + ";", false);
            well(check, "permit" + constraint + ":" + LETTERS.charAt((attribute + 1) % 4) + "0;", false);
            for (int count = 1; count <= Check.SIZES[attribute]; count++) {
                String rule = "permit" + constraint + DIGITS.substring(0, count) + ";";
                well(check, rule, true);
                check.due("the set of " + rule, valueSet(rule, attribute), (1 << count) - 1);
            }
        }
        return check;
    }

    // ---- the selected policy

    private static Check oldAtFirst() {
        Check check = new Check("at the beginning of the text the old policy is selected");
        PolicyComparer x = Check.loaded("permit;usemajority;new;deny;");
        String due = "0 use4 0:255:15:255:15;1 use0 1:255:15:255:15;0";
        check.sameText("the state", Check.state(x), due);
        // The text ended with the new policy; the next reading begins with the old one again.
        check.due("syntaxError()", x.syntaxError(), -4);
        check.due("load() again", x.load(), 2);
        check.sameText("the state once more", Check.state(x), due);
        return check;
    }

    private static Check selection() {
        Check check = new Check("The statements old and new select the policy to which the following statements apply");
        counts(check, "old;permit;", 1, 0);
        counts(check, "old;old;permit;", 1, 0);
        counts(check, "new;permit;", 0, 1);
        counts(check, "new;new;permit;", 0, 1);
        counts(check, "new;old;permit;", 1, 0);
        counts(check, "old;new;permit;", 0, 1);
        counts(check, "new;permit;old;permit;permit;new;permit;permit;", 2, 3);
        counts(check, "permit;new;", 1, 0);
        PolicyComparer x = Check.loaded("new;useonlyone;old;usemajority;");
        check.due("algorithmOf(0)", x.algorithmOf(0), 4);
        check.due("algorithmOf(1)", x.algorithmOf(1), 3);
        return check;
    }

    private static void counts(Check check, String text, int old, int added) {
        PolicyComparer x = Check.loaded(text);
        check.due("ruleCount(0) of " + text, x.ruleCount(0), old);
        check.due("ruleCount(1) of " + text, x.ruleCount(1), added);
    }

    private static Check laterUse() {
        Check check = new Check("A use statement sets the combining algorithm (a later one replaces an earlier one)");
        for (int earlier = 0; earlier < 5; earlier++) {
            for (int later = 0; later < 5; later++) {
                String first = "use" + Check.ALGORITHMS[earlier] + ";";
                String second = "use" + Check.ALGORITHMS[later] + ";";
                check.due(first + second, Check.loaded(first + second).algorithmOf(0), later);
                check.due(first + "deny;" + second, Check.loaded(first + "deny;" + second).algorithmOf(0), later);
                PolicyComparer x = Check.loaded("new;" + first + "old;" + second);
                check.due("new;" + first + "old;" + second, x.algorithmOf(1), earlier);
                PolicyComparer y = Check.loaded(first + "new;" + second + "old;");
                check.due(first + "new;" + second + "old;", y.algorithmOf(0), earlier);
            }
        }
        return check;
    }

    private static Check appendedRules() {
        Check check = new Check("A permit or deny statement appends a rule to the selected policy");
        StringBuilder text = new StringBuilder();
        for (int i = 0; i < 8; i++) {
            text.append(i % 3 == 0 ? "deny:s" : "permit:s").append(i).append(";new;deny:r").append(7 - i).append(";old;");
        }
        PolicyComparer x = Check.loaded(text.toString());
        for (int i = 0; i < 8; i++) {
            check.due("effectOf(0, " + i + ")", x.effectOf(0, i), i % 3 == 0 ? 1 : 0);
            check.due("targetOf(0, " + i + ", 0)", x.targetOf(0, i, 0), 1 << i);
            check.due("effectOf(1, " + i + ")", x.effectOf(1, i), 1);
            check.due("targetOf(1, " + i + ", 2)", x.targetOf(1, i, 2), 128 >> i);
        }
        return check;
    }

    // ---- constraints

    private static Check unconstrained() {
        Check check = new Check("an attribute without a constraint has the set of all its values");
        for (int constrained = 0; constrained < 16; constrained++) {
            StringBuilder rule = new StringBuilder("deny");
            for (int attribute = 0; attribute < 4; attribute++) {
                rule.append((constrained >> attribute & 1) != 0 ? ":" + LETTERS.charAt(attribute) + "0" : "");
            }
            // The rule before has every attribute constrained; nothing of it may reach over.
            PolicyComparer x = Check.loaded("permit:s1:a1:r1:l1;" + rule + ";");
            for (int attribute = 0; attribute < 4; attribute++) {
                check.due("targetOf(0, 1, " + attribute + ") of " + rule, x.targetOf(0, 1, attribute),
                    (constrained >> attribute & 1) != 0 ? 1 : ALL[attribute]);
            }
        }
        return check;
    }

    /** All rules of up to five constraints, each of any attribute. */
    private static Check oneConstraintEach() {
        Check check = new Check("Within one statement there may be at most one constraint for each attribute");
        for (int count = 0; count <= 5; count++) {
            for (int choice = 0; choice < 1 << 2 * count; choice++) {
                StringBuilder rule = new StringBuilder("permit");
                int seen = 0;
                for (int i = 0; i < count; i++) {
                    int attribute = choice >> 2 * i & 3;
                    rule.append(':').append(LETTERS.charAt(attribute)).append(i % 4);
                    seen |= 1 << attribute;
                }
                well(check, rule + ";", Integer.bitCount(seen) == count);
            }
        }
        for (int attribute = 0; attribute < 4; attribute++) {
            String constraint = ":" + LETTERS.charAt(attribute) + "0";
            well(check, "permit" + constraint + constraint + ";", false);
            well(check, "permit" + constraint + ";permit" + constraint + ";", true);
        }
        return check;
    }

    private static Check digitTwice() {
        Check check = new Check("a digit may not occur twice in one constraint");
        for (int attribute = 0; attribute < 4; attribute++) {
            int size = Check.SIZES[attribute];
            String letter = ":" + LETTERS.charAt(attribute);
            for (int first = 0; first < size; first++) {
                for (int second = 0; second < size; second++) {
                    well(check, "deny" + letter + first + second + ";", first != second);
                }
                well(check, "deny" + letter + DIGITS.substring(0, size) + first + ";", false);
                well(check, "deny" + letter + first + ";deny" + letter + first + ";", true);
            }
        }
        well(check, "deny:s3:a3:r3:l3;", true);
        well(check, "deny:s01234567:r01234567:a0123:l0123;", true);
        return check;
    }

    private static Check valueOfTheAttribute() {
        Check check = new Check("and it must be a value of the attribute");
        for (int attribute = 0; attribute < 4; attribute++) {
            int size = Check.SIZES[attribute];
            String letter = ":" + LETTERS.charAt(attribute);
            for (int digit = 0; digit <= 9; digit++) {
                well(check, "permit" + letter + digit + ";", digit < size);
                well(check, "permit" + letter + (digit == 0 ? 1 : 0) + digit + ";", digit < size);
                well(check, "permit" + letter + digit + (digit == 0 ? 1 : 0) + ";", digit < size);
                check.holds("the set of digit " + digit, digit >= size
                    || valueSet("permit" + letter + digit + ";", attribute) == 1 << digit);
            }
        }
        return check;
    }
}
