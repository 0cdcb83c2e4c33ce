/** Promises 1 to 5, ordinary inputs: a new object and the policy text. */
public final class PolicyTextTest {
    private static final String INITIAL =
        "permit:s01:r0123;deny:a3;usedenyover;new;permit:s012:r0123;deny:a3:l01;permit:s0;usefirst;";

    public static void main(String[] args) {
        Check.finish(newObject(), append(), clearText(), syntaxError(), load());
    }

    private static Check newObject() {
        Check check = new Check("promise 1");
        PolicyComparer x = new PolicyComparer();
        check.sameText("the state", Check.state(x),
            "0 use1 0:3:15:15:15 1:255:8:255:15;1 use0 0:7:15:15:15 1:255:8:255:3 0:1:15:255:15;0");
        check.sameText("the state of the loaded text", Check.state(Check.loaded(INITIAL)), Check.state(x));
        check.due("clearText()", x.clearText(), 0);
        check.due("syntaxError()", x.syntaxError(), -4);
        check.due("undo()", x.undo(), -3);
        check.due("historySize()", x.historySize(), 0);
        PolicyComparer other = new PolicyComparer();
        other.removeRule(0, 0);
        other.append('x');
        check.sameText("the state after another object's edit", Check.state(x), Check.state(new PolicyComparer()));
        return check;
    }

    private static Check append() {
        Check check = new Check("promise 2");
        PolicyComparer x = new PolicyComparer();
        check.due("append(110)", x.append(110), 1);
        check.due("append(10)", x.append(10), -1);
        check.due("append(101)", x.append(101), 2);
        check.due("clearText()", x.clearText(), 2);
        check.due("append(65)", x.append(65), 1);
        return check;
    }

    private static Check clearText() {
        Check check = new Check("promise 3");
        PolicyComparer x = Check.withText("bad");
        check.due("clearText()", x.clearText(), 3);
        check.due("clearText() again", x.clearText(), 0);
        leftovers(check);
        check.due("syntaxError()", x.syntaxError(), -4);
        Check.type(x, "new;permit;");
        check.due("syntaxError() of the next text", x.syntaxError(), -4);
        String before = Check.state(x);
        x.clearText();
        check.sameText("the policies after clearText", Check.state(x), before);
        return check;
    }

    /** What stood in the text before must not be read again behind a shorter one. */
    private static void leftovers(Check check) {
        PolicyComparer x = Check.withText("permit:s01;");
        x.clearText();
        for (char character : "permit:s01".toCharArray()) {
            x.append(character);
            check.due("syntaxError() before the semicolon", x.syntaxError(), 0);
        }
        x.append(';');
        check.due("syntaxError() behind it", x.syntaxError(), -4);
    }

    private static void well(Check check, String text) {
        check.due("syntaxError() of " + text, Check.withText(text).syntaxError(), -4);
    }

    private static void malformed(Check check, String text, int at) {
        PolicyComparer x = Check.withText(text);
        String before = Check.state(x);
        check.due("syntaxError() of " + text, x.syntaxError(), at);
        check.due("load() of " + text, x.load(), -3);
        check.sameText("the state after " + text, Check.state(x), before);
        check.due("clearText() of " + text, x.clearText(), text.length());
    }

    private static Check syntaxError() {
        Check check = new Check("promise 4");
        for (String text : new String[] {"", "old;", "new;", "old;old;new;new;", "usefirst;", "usedenyover;",
            "usepermitover;", "useonlyone;", "usemajority;", "usefirst;usemajority;", "permit;", "deny;",
            "permit:s01234567:a0123:r01234567:l0123;", "deny:l3:r7:a3:s7;", "deny:s76543210;", "permit:r0;deny:r0;",
            "deny;deny;deny;deny;deny;deny;deny;deny;new;deny;deny;deny;deny;deny;deny;deny;deny;"}) {
            well(check, text);
        }
        for (String text : new String[] {";", ";;", "o", "ol", "old", "Old;", "OLD;", "olde;", "old ;", " old;", "ol;",
            "oldnew;", "use;", "use", "usefirs;", "usefirst", "usefirstt;", "usefirstusefirst;", "useonly;", "usedeny;",
            "usepermit;", "usedenyoverover;", "first;", "permitover;", "denyover;", "permit", "permi;", "permits;",
            "permit:", "permit:;", "permit:s", "permit:s;", "permit:s0", "permit:s0:", "permit:s0:;", "permit:s0::a0;",
            "permit::s0;", "permit:x0;", "permit:S0;", "permit:0;", "permits0;", "permit:s0a0;", "permit:s8;",
            "permit:s9;", "permit:s/;", "permit:a4;", "permit:a7;", "permit:l4;", "permit:r8;", "permit:s00;",
            "permit:s010;", "permit:s012345670;", "permit:a01230;", "permit:s0:s1;", "permit:s0:a0:s0;",
            "permit:s0:a0:r0:l0:s1;", "permit:s0:a0:r0:l0:", "permit:s0,1;", "permit: s0;", "deny:l33;", "x;old;",
            "deny:a04;", "deny:s0", "permitdeny;", "~;"}) {
            malformed(check, text, 0);
        }
        malformed(check, "old;;", 4);
        malformed(check, "old;new", 4);
        malformed(check, "old; ", 4);
        malformed(check, "permit:s0;deny:a4;x;", 10);
        malformed(check, "permit;permit;permit;permit;permit;permit;permit;permit;permit;", 56);
        malformed(check, "deny;deny;deny;deny;deny;deny;deny;deny;new;deny;old;deny;", 53);
        malformed(check, "deny;deny;deny;deny;deny;deny;deny;deny;new;deny;old;usefirst;permit:s8;", 62);
        well(check, "deny;deny;deny;deny;deny;deny;deny;deny;usefirst;old;new;");
        return check;
    }

    private static Check load() {
        Check check = new Check("promise 5");
        PolicyComparer x = Check.withText("permit:a1;new;deny:s7:l2;usemajority;old;deny;useonlyone;usepermitover;");
        x.flipEffect(0, 0);
        check.due("load()", x.load(), 3);
        check.sameText("the state", Check.state(x), "0 use2 0:255:2:255:15 1:255:15:255:15;1 use4 1:128:15:255:4;0");
        check.due("undo()", x.undo(), -3);
        check.due("load() again", x.load(), 3);
        check.due("clearText() after load", x.clearText(), 71);
        check.due("load() of the empty text", x.load(), 0);
        check.sameText("the empty policies", Check.state(x), "0 use0;1 use0;0");
        Check.type(x, "new;usedenyover;permit:r07;");
        check.due("load() of a new policy alone", x.load(), 1);
        check.sameText("a new policy alone", Check.state(x), "0 use0;1 use1 0:255:15:129:15;0");
        x.flipEffect(1, 0);
        Check.type(x, "x");
        String before = Check.state(x);
        check.due("load() of a malformed text", x.load(), -3);
        check.sameText("the state after it", Check.state(x), before);
        check.due("undo() after it", x.undo(), 0);
        check.due("the undone effect", x.effectOf(1, 0), 0);
        check.due("load() of 16 rules", Check.withText("deny;".repeat(8) + "new;" + "permit;".repeat(8)).load(), 16);
        return check;
    }
}
