/** Counts and prints the answers that are not the ones that are due. */
final class Check {
    private final String promise;
    private int wrong = 0;
    private int asked = 0;

    Check(String promise) {
        this.promise = promise;
    }

    void due(String call, long got, long want) {
        asked++;
        if (got != want) {
            wrong++;
            System.out.println(promise + ": " + call + " answered " + got + ", due is " + want);
        }
    }

    void holds(String what, boolean truth) {
        due(what, truth ? 1 : 0, 1);
    }

    static PolicyComparer withText(String text) {
        PolicyComparer x = new PolicyComparer();
        type(x, text);
        return x;
    }

    static PolicyComparer loaded(String text) {
        PolicyComparer x = withText(text);
        if (x.load() < 0) {
            throw new IllegalStateException("the test's own text does not load: " + text);
        }
        return x;
    }

    static void type(PolicyComparer x, String text) {
        for (int i = 0; i < text.length(); i++) {
            x.append(text.charAt(i));
        }
    }

    /** All that can be asked of the policies and the history, as one text. */
    static String state(PolicyComparer x) {
        StringBuilder state = new StringBuilder();
        for (int policy = 0; policy < 2; policy++) {
            state.append(policy).append(" use").append(x.algorithmOf(policy));
            for (int index = 0; index < x.ruleCount(policy); index++) {
                state.append(' ').append(x.effectOf(policy, index));
                for (int attribute = 0; attribute < 4; attribute++) {
                    state.append(':').append(x.targetOf(policy, index, attribute));
                }
            }
            state.append(';');
        }
        return state.append(x.historySize()).toString();
    }

    void sameText(String what, String got, String want) {
        asked++;
        if (!got.equals(want)) {
            wrong++;
            System.out.println(promise + ": " + what + " is " + got + ", due is " + want);
        }
    }

    static void finish(Check... checks) {
        int wrong = 0;
        int asked = 0;
        for (Check check : checks) {
            wrong += check.wrong;
            asked += check.asked;
        }
        System.out.println(asked + " answers looked at, " + wrong + " wrong");
        if (wrong != 0 || asked == 0) {
            System.exit(1);
        }
    }
}
