/** Counts and prints the answers that are not the ones that are due, with the promise or the sentence they break. */
final class Check {
    static final int MIN = Integer.MIN_VALUE;
    static final int MAX = Integer.MAX_VALUE;
    static final int[] SIZES = {8, 4, 8, 4};
    static final String[] ALGORITHMS = {"first", "denyover", "permitover", "onlyone", "majority"};

    private final String promise;
    private int wrong = 0;
    private int asked = 0;

    Check(String promise) {
        this.promise = promise;
    }

    void due(String call, long got, long want) {
        asked++;
        if (got != want) {
            wrong++;
            System.out.println(promise + ": " + call + " answered " + got + ", due is " + want);
        }
    }

    void holds(String what, boolean truth) {
        due(what, truth ? 1 : 0, 1);
    }

    static PolicyComparer withText(String text) {
        PolicyComparer x = new PolicyComparer();
        type(x, text);
        return x;
    }

    static PolicyComparer loaded(String text) {
        PolicyComparer x = withText(text);
        if (x.load() < 0) {
            throw new IllegalStateException("the test's own text does not load: " + text);
        }
        return x;
    }

    /** A rule statement whose rule applies to this one request. */
    static String ruleFor(String effect, int request) {
        return effect + ":s" + request / 128 + ":a" + request / 32 % 4 + ":r" + request / 4 % 8 + ":l" + request % 4 + ";";
    }

    static void type(PolicyComparer x, String text) {
        for (int i = 0; i < text.length(); i++) {
            x.append(text.charAt(i));
        }
    }

    /** All that can be asked of the policies and the history, as one text. */
    static String state(PolicyComparer x) {
        StringBuilder state = new StringBuilder();
        for (int policy = 0; policy < 2; policy++) {
            state.append(policy).append(" use").append(x.algorithmOf(policy));
            int count = x.ruleCount(policy);
            for (int index = 0; index < count; index++) {
                state.append(' ').append(x.effectOf(policy, index));
                for (int attribute = 0; attribute < 4; attribute++) {
                    state.append(':').append(x.targetOf(policy, index, attribute));
                }
            }
            state.append(';');
        }
        return state.append(x.historySize()).toString();
    }

    /** The policies alone, as state tells them. */
    static String policies(PolicyComparer x) {
        String state = state(x);
        return state.substring(0, state.lastIndexOf(';'));
    }

    /** All that the object holds, its text and what each undo brings back too; this uses the object up. */
    static String tale(PolicyComparer x) {
        StringBuilder tale = new StringBuilder(state(x));
        int undos = x.historySize();
        for (int i = 0; i < undos; i++) {
            tale.append(" undo ").append(x.undo()).append(' ').append(state(x));
        }
        tale.append(" undo ").append(x.undo()).append(" error ").append(x.syntaxError());
        tale.append(" load ").append(x.load()).append(' ').append(state(x));
        return tale.append(" length ").append(x.clearText()).toString();
    }

    void sameText(String what, String got, String want) {
        asked++;
        if (!got.equals(want)) {
            wrong++;
            System.out.println(promise + ": " + what + " is " + got + ", due is " + want);
        }
    }

    static void finish(Check... checks) {
        int wrong = 0;
        int asked = 0;
        for (Check check : checks) {
            wrong += check.wrong;
            asked += check.asked;
        }
        System.out.println(asked + " answers looked at, " + wrong + " wrong");
        if (wrong != 0 || asked == 0) {
            System.exit(1);
        }
    }
}
