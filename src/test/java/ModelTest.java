import java.util.Random;

/** Long runs of calls with a fixed seed, each answer held against the plain model's. */
public final class ModelTest {
    private static final int RUNS = 400;
    private static final int CALLS = 512;
    private static final String[] USES = {"first", "denyover", "permitover", "onlyone", "majority"};
    private static final int[] ODD = {Integer.MIN_VALUE, -1, 8, 9, 16, 256, 1024, Integer.MAX_VALUE};

    private final Check check = new Check("against the model");
    private final Random random;
    private final PolicyComparer x = new PolicyComparer();
    private final PlainModel model = new PlainModel();
    private final int run;
    private int calls = 0;

    private ModelTest(int run) {
        this.run = run;
        this.random = new Random(run);
    }

    public static void main(String[] args) {
        Check[] checks = new Check[RUNS];
        for (int run = 0; run < RUNS; run++) {
            ModelTest test = new ModelTest(run);
            test.go();
            checks[run] = test.check;
        }
        Check.finish(checks);
    }

    private void go() {
        while (calls < CALLS) {
            int kind = random.nextInt(100);
            if (kind < 4 && calls < CALLS - 4) {
                text();
            } else if (kind < 50) {
                edit();
            } else {
                ask();
            }
        }
    }

    private void due(String call, int got, int want) {
        calls++;
        check.due("run " + run + ", call " + calls + ", " + call, got, want);
    }

    /** Mostly a number below the bound, now and then one that is far off. */
    private int number(int bound) {
        return random.nextInt(25) == 0 ? ODD[random.nextInt(ODD.length)] : random.nextInt(bound);
    }

    private int policy() {
        return number(2);
    }

    private int index(int policy) {
        return number(Math.max(1, model.ruleCount(policy) + (random.nextInt(10) == 0 ? 1 : 0)));
    }

    // ---- text

    private void text() {
        if (random.nextInt(4) != 0) {
            due("clearText()", x.clearText(), model.clearText());
        }
        String text = random.nextInt(3) == 0 ? spoilt(someText()) : someText();
        for (int i = 0; i < text.length() && calls < CALLS - 3; i++) {
            due("append(" + (int) text.charAt(i) + ")", x.append(text.charAt(i)), model.append(text.charAt(i)));
        }
        int odd = random.nextInt(200) - 30;
        if (random.nextInt(8) == 0) {
            due("append(" + odd + ")", x.append(odd), model.append(odd));
        }
        due("syntaxError() of " + text, x.syntaxError(), model.syntaxError());
        due("load() of " + text, x.load(), model.load());
    }

    private String someText() {
        StringBuilder text = new StringBuilder();
        int statements = random.nextInt(12);
        for (int i = 0; i < statements; i++) {
            text.append(statement()).append(';');
        }
        return text.toString();
    }

    private String statement() {
        int kind = random.nextInt(10);
        if (kind < 2) {
            return kind == 0 ? "old" : "new";
        }
        if (kind == 2) {
            return "use" + USES[random.nextInt(5)];
        }
        StringBuilder rule = new StringBuilder(random.nextInt(2) == 0 ? "permit" : "deny");
        for (int attribute = 0; attribute < 4; attribute++) {
            if (random.nextInt(3) == 0) {
                rule.append(':').append("sarl".charAt(attribute)).append(digits(PlainModel.SIZES[attribute]));
            }
        }
        return rule.toString();
    }

    private String digits(int size) {
        StringBuilder digits = new StringBuilder();
        int set = 1 + random.nextInt((1 << size) - 1);
        for (int value = 0; value < size; value++) {
            if ((set >> value & 1) != 0) {
                digits.insert(random.nextInt(digits.length() + 1), value);
            }
        }
        return digits.toString();
    }

    private String spoilt(String text) {
        StringBuilder spoilt = new StringBuilder(text);
        int at = random.nextInt(text.length() + 1);
        char character = ":;sarl0123456789oldnewuse ".charAt(random.nextInt(26));
        if (at == text.length() || random.nextInt(3) == 0) {
            spoilt.insert(at, character);
        } else if (random.nextInt(2) == 0) {
            spoilt.deleteCharAt(at);
        } else {
            spoilt.setCharAt(at, character);
        }
        return spoilt.toString();
    }

    // ---- edits

    private void edit() {
        int p = policy();
        int i = index(p);
        int j = index(p);
        switch (random.nextInt(14)) {
            case 0, 1, 2 -> {
                int effect = number(2);
                due("addRule(" + p + ", " + i + ", " + effect + ")", x.addRule(p, i, effect), model.addRule(p, i, effect));
            }
            case 3 -> due("removeRule(" + p + ", " + i + ")", x.removeRule(p, i), model.removeRule(p, i));
            case 4 -> due("moveRule(" + p + ", " + i + ", " + j + ")", x.moveRule(p, i, j), model.moveRule(p, i, j));
            case 5, 6 -> {
                int algorithm = number(5);
                due("setAlgorithm(" + p + ", " + algorithm + ")", x.setAlgorithm(p, algorithm), model.setAlgorithm(p, algorithm));
            }
            case 7, 8, 9, 10 -> {
                int a = number(4);
                int set = number(a % 2 == 0 ? 256 : 16);
                due("setTarget(" + p + ", " + i + ", " + a + ", " + set + ")", x.setTarget(p, i, a, set), model.setTarget(p, i, a, set));
            }
            case 11 -> due("flipEffect(" + p + ", " + i + ")", x.flipEffect(p, i), model.flipEffect(p, i));
            case 12 -> {
                if (random.nextInt(4) == 0) {
                    due("copyOldToNew()", x.copyOldToNew(), model.copyOldToNew());
                }
            }
            default -> due("undo()", x.undo(), model.undo());
        }
    }

    // ---- questions

    private void ask() {
        int p = policy();
        int i = index(p);
        int a = number(4);
        int r = number(1024);
        int d = number(4);
        int e = number(4);
        int v = number(a == 0 || a == 2 ? 8 : 4);
        String of = "(" + p + ", " + i + ")";
        switch (random.nextInt(19)) {
            case 0 -> due("ruleCount(" + p + ")", x.ruleCount(p), model.ruleCount(p));
            case 1 -> due("effectOf" + of, x.effectOf(p, i), model.effectOf(p, i));
            case 2 -> due("targetOf" + of + a, x.targetOf(p, i, a), model.targetOf(p, i, a));
            case 3 -> due("algorithmOf(" + p + ")", x.algorithmOf(p), model.algorithmOf(p));
            case 4 -> due("decide(" + p + ", " + r + ")", x.decide(p, r), model.decide(p, r));
            case 5 -> due("decisionCount(" + p + ", " + d + ")", x.decisionCount(p, d), model.decisionCount(p, d));
            case 6 -> due("applicableRules(" + p + ", " + r + ")", x.applicableRules(p, r), model.applicableRules(p, r));
            case 7 -> due("gainCount()", x.gainCount(), model.gainCount());
            case 8 -> due("lossCount()", x.lossCount(), model.lossCount());
            case 9 -> due("gainCountOf(" + a + ", " + v + ")", x.gainCountOf(a, v), model.gainCountOf(a, v));
            case 10 -> due("nextGain(" + r + ")", x.nextGain(r), model.nextGain(r));
            case 11 -> due("nextLoss(" + r + ")", x.nextLoss(r), model.nextLoss(r));
            case 12 -> due("transitionCount(" + d + ", " + e + ")", x.transitionCount(d, e), model.transitionCount(d, e));
            case 13 -> due("grantedShareBits(" + p + ")", x.grantedShareBits(p), model.grantedShareBits(p));
            case 14 -> due("isRedundant" + of, x.isRedundant(p, i), model.isRedundant(p, i));
            case 15 -> due("witness" + of, x.witness(p, i), model.witness(p, i));
            case 16 -> due("irredundantCore(" + p + ")", x.irredundantCore(p), model.irredundantCore(p));
            case 17 -> due("leastRemoval()", x.leastRemoval(), model.leastRemoval());
            default -> due("historySize()", x.historySize(), model.historySize());
        }
    }
}
