import java.util.ArrayList;
import java.util.List;
import java.util.regex.Pattern;

/** The document's words once more, as plainly as they go and in another way than the class has them. */
final class PlainModel {
    static final int[] SIZES = {8, 4, 8, 4};
    private static final Pattern FORM = Pattern.compile(
        "old|new|use(first|denyover|permitover|onlyone|majority)|(permit|deny)(:[sarl][0-7]+)*");

    record Rule(int effect, int subjects, int actions, int resources, int levels) {
        int set(int attribute) {
            return new int[] {subjects, actions, resources, levels}[attribute];
        }

        Rule with(int attribute, int values) {
            int[] sets = {subjects, actions, resources, levels};
            sets[attribute] = values;
            return new Rule(effect, sets[0], sets[1], sets[2], sets[3]);
        }

        boolean applies(int request) {
            return has(subjects, request / 128) && has(actions, request / 32 % 4) && has(resources, request / 4 % 8)
                && has(levels, request % 4);
        }
    }

    record Policy(List<Rule> rules, int algorithm) {
    }

    private String text = "";
    private Policy[] policies;
    private final List<Policy[]> history = new ArrayList<>();

    PlainModel() {
        text = "permit:s01:r0123;deny:a3;usedenyover;new;permit:s012:r0123;deny:a3:l01;permit:s0;usefirst;";
        load();
        text = "";
    }

    static PlainModel withText(String text) {
        PlainModel model = new PlainModel();
        for (int i = 0; i < text.length(); i++) {
            model.append(text.charAt(i));
        }
        return model;
    }

    private static boolean has(int set, int value) {
        return (set & (1 << value)) != 0;
    }

    // ---- text

    int append(int character) {
        if (character < 32 || character > 126) {
            return -1;
        }
        if (text.length() == 240) {
            return -2;
        }
        text += (char) character;
        return text.length();
    }

    int clearText() {
        int length = text.length();
        text = "";
        return length;
    }

    int syntaxError() {
        int[] rules = new int[2];
        int policy = 0;
        int start = 0;
        while (start < text.length()) {
            int end = text.indexOf(';', start);
            if (end < 0 || !wellFormed(text.substring(start, end))) {
                return start;
            }
            String statement = text.substring(start, end);
            policy = statement.equals("old") ? 0 : statement.equals("new") ? 1 : policy;
            if ((statement.startsWith("permit") || statement.startsWith("deny")) && ++rules[policy] > 8) {
                return start;
            }
            start = end + 1;
        }
        return -4;
    }

    private static boolean wellFormed(String statement) {
        if (!FORM.matcher(statement).matches()) {
            return false;
        }
        String[] parts = statement.split(":");
        String letters = "";
        for (int i = 1; i < parts.length; i++) {
            String digits = parts[i].substring(1);
            int size = SIZES["sarl".indexOf(parts[i].charAt(0))];
            if (letters.indexOf(parts[i].charAt(0)) >= 0 || digits.chars().distinct().count() != digits.length()
                || digits.chars().anyMatch(digit -> digit - '0' >= size)) {
                return false;
            }
            letters += parts[i].charAt(0);
        }
        return true;
    }

    int load() {
        if (syntaxError() != -4) {
            return -3;
        }
        List<List<Rule>> rules = List.of(new ArrayList<>(), new ArrayList<>());
        int[] algorithms = new int[2];
        int policy = 0;
        for (String statement : text.isEmpty() ? new String[0] : text.split(";")) {
            if (statement.equals("old") || statement.equals("new")) {
                policy = statement.equals("old") ? 0 : 1;
            } else if (statement.startsWith("use")) {
                algorithms[policy] = List.of("first", "denyover", "permitover", "onlyone", "majority").indexOf(statement.substring(3));
            } else {
                rules.get(policy).add(parsed(statement));
            }
        }
        policies = new Policy[] {new Policy(rules.get(0), algorithms[0]), new Policy(rules.get(1), algorithms[1])};
        history.clear();
        return rules.get(0).size() + rules.get(1).size();
    }

    private static Rule parsed(String statement) {
        String[] parts = statement.split(":");
        Rule rule = new Rule(parts[0].equals("permit") ? 0 : 1, 255, 15, 255, 15);
        for (int i = 1; i < parts.length; i++) {
            int set = parts[i].substring(1).chars().map(digit -> 1 << (digit - '0')).sum();
            rule = rule.with("sarl".indexOf(parts[i].charAt(0)), set);
        }
        return rule;
    }

    // ---- edits

    private boolean noPolicy(int policy) {
        return policy != 0 && policy != 1;
    }

    private boolean noRule(int policy, int index) {
        return noPolicy(policy) || index < 0 || index >= policies[policy].rules().size();
    }

    private void edit(int policy, List<Rule> rules, int algorithm) {
        history.add(policies);
        if (history.size() > 4) {
            history.remove(0);
        }
        policies = policies.clone();
        policies[policy] = new Policy(rules, algorithm);
    }

    private void editRules(int policy, List<Rule> rules) {
        edit(policy, rules, policies[policy].algorithm());
    }

    private List<Rule> rulesOf(int policy) {
        return new ArrayList<>(policies[policy].rules());
    }

    int addRule(int policy, int index, int effect) {
        if (noPolicy(policy) || index < 0 || index > policies[policy].rules().size() || effect < 0 || effect > 1) {
            return -1;
        }
        List<Rule> rules = rulesOf(policy);
        if (rules.size() == 8) {
            return -2;
        }
        rules.add(index, new Rule(effect, 255, 15, 255, 15));
        editRules(policy, rules);
        return rules.size();
    }

    int removeRule(int policy, int index) {
        if (noRule(policy, index)) {
            return -1;
        }
        List<Rule> rules = rulesOf(policy);
        rules.remove(index);
        editRules(policy, rules);
        return rules.size();
    }

    int moveRule(int policy, int from, int to) {
        if (noRule(policy, from) || noRule(policy, to)) {
            return -1;
        }
        if (from == to) {
            return -3;
        }
        List<Rule> rules = rulesOf(policy);
        rules.add(to, rules.remove(from));
        editRules(policy, rules);
        return rules.get(to).effect();
    }

    int setAlgorithm(int policy, int algorithm) {
        if (noPolicy(policy) || algorithm < 0 || algorithm > 4) {
            return -1;
        }
        int before = policies[policy].algorithm();
        if (before == algorithm) {
            return -3;
        }
        edit(policy, rulesOf(policy), algorithm);
        return before;
    }

    int setTarget(int policy, int index, int attribute, int values) {
        if (noRule(policy, index) || attribute < 0 || attribute > 3 || values < 1 || values >= 1 << SIZES[attribute]) {
            return -1;
        }
        List<Rule> rules = rulesOf(policy);
        int before = rules.get(index).set(attribute);
        if (before == values) {
            return -3;
        }
        rules.set(index, rules.get(index).with(attribute, values));
        editRules(policy, rules);
        return before;
    }

    int flipEffect(int policy, int index) {
        if (noRule(policy, index)) {
            return -1;
        }
        List<Rule> rules = rulesOf(policy);
        Rule rule = rules.get(index);
        rules.set(index, new Rule(1 - rule.effect(), rule.subjects(), rule.actions(), rule.resources(), rule.levels()));
        editRules(policy, rules);
        return 1 - rule.effect();
    }

    int copyOldToNew() {
        edit(1, rulesOf(0), policies[0].algorithm());
        return policies[1].rules().size();
    }

    int undo() {
        if (history.isEmpty()) {
            return -3;
        }
        policies = history.remove(history.size() - 1);
        return history.size();
    }

    int historySize() {
        return history.size();
    }

    // ---- policies and decisions

    int ruleCount(int policy) {
        return noPolicy(policy) ? -1 : policies[policy].rules().size();
    }

    int effectOf(int policy, int index) {
        return noRule(policy, index) ? -1 : policies[policy].rules().get(index).effect();
    }

    int targetOf(int policy, int index, int attribute) {
        return noRule(policy, index) || attribute < 0 || attribute > 3 ? -1 : policies[policy].rules().get(index).set(attribute);
    }

    int algorithmOf(int policy) {
        return noPolicy(policy) ? -1 : policies[policy].algorithm();
    }

    private static int decision(List<Rule> rules, int algorithm, int request) {
        int first = -1;
        int permits = 0;
        int denies = 0;
        for (Rule rule : rules) {
            if (rule.applies(request)) {
                first = first < 0 ? rule.effect() : first;
                permits += rule.effect() == 0 ? 1 : 0;
                denies += rule.effect() == 1 ? 1 : 0;
            }
        }
        if (first < 0) {
            return 2;
        }
        return switch (algorithm) {
            case 0 -> first;
            case 1 -> denies > 0 ? 1 : 0;
            case 2 -> permits > 0 ? 0 : 1;
            case 3 -> permits + denies > 1 ? 3 : first;
            default -> permits > denies ? 0 : denies > permits ? 1 : 3;
        };
    }

    private int decision(int policy, int request) {
        return decision(policies[policy].rules(), policies[policy].algorithm(), request);
    }

    int decide(int policy, int request) {
        return noPolicy(policy) || request < 0 || request > 1023 ? -1 : decision(policy, request);
    }

    int decisionCount(int policy, int decision) {
        if (noPolicy(policy) || decision < 0 || decision > 3) {
            return -1;
        }
        int count = 0;
        for (int request = 0; request < 1024; request++) {
            count += decision(policy, request) == decision ? 1 : 0;
        }
        return count;
    }

    int applicableRules(int policy, int request) {
        if (noPolicy(policy) || request < 0 || request > 1023) {
            return -1;
        }
        return (int) policies[policy].rules().stream().filter(rule -> rule.applies(request)).count();
    }

    // ---- comparison

    private boolean changes(int granting, int request) {
        return decision(granting, request) == 0 && decision(1 - granting, request) != 0;
    }

    private int next(int granting, int from) {
        if (from < 0 || from > 1023) {
            return -1;
        }
        int request = from;
        while (request < 1024 && !changes(granting, request)) {
            request++;
        }
        return request < 1024 ? request : -4;
    }

    int gainCount() {
        return transitionCount(1, 0) + transitionCount(2, 0) + transitionCount(3, 0);
    }

    int lossCount() {
        return transitionCount(0, 1) + transitionCount(0, 2) + transitionCount(0, 3);
    }

    int gainCountOf(int attribute, int value) {
        if (attribute < 0 || attribute > 3 || value < 0 || value >= SIZES[attribute]) {
            return -1;
        }
        int count = 0;
        for (int request = 0; request < 1024; request++) {
            int[] values = {request / 128, request / 32 % 4, request / 4 % 8, request % 4};
            count += values[attribute] == value && changes(1, request) ? 1 : 0;
        }
        return count;
    }

    int nextGain(int from) {
        return next(1, from);
    }

    int nextLoss(int from) {
        return next(0, from);
    }

    int transitionCount(int before, int after) {
        if (before < 0 || before > 3 || after < 0 || after > 3) {
            return -1;
        }
        int count = 0;
        for (int request = 0; request < 1024; request++) {
            count += decision(0, request) == before && decision(1, request) == after ? 1 : 0;
        }
        return count;
    }

    int grantedShareBits(int policy) {
        return noPolicy(policy) ? -1 : Float.floatToIntBits(decisionCount(policy, 0) / 1024f);
    }

    // ---- rules that do not matter

    private static int firstOther(List<Rule> rules, int algorithm, int index) {
        List<Rule> fewer = new ArrayList<>(rules);
        fewer.remove(index);
        for (int request = 0; request < 1024; request++) {
            if (decision(rules, algorithm, request) != decision(fewer, algorithm, request)) {
                return request;
            }
        }
        return -4;
    }

    int witness(int policy, int index) {
        return noRule(policy, index) ? -1 : firstOther(policies[policy].rules(), policies[policy].algorithm(), index);
    }

    int isRedundant(int policy, int index) {
        return noRule(policy, index) ? -1 : witness(policy, index) == -4 ? 1 : 0;
    }

    int irredundantCore(int policy) {
        if (noPolicy(policy)) {
            return -1;
        }
        List<Rule> rules = rulesOf(policy);
        List<Integer> numbers = new ArrayList<>();
        for (int i = 0; i < rules.size(); i++) {
            numbers.add(i);
        }
        int index = 0;
        while (index < rules.size()) {
            if (firstOther(rules, policies[policy].algorithm(), index) == -4) {
                rules.remove(index);
                numbers.remove(index);
                index = 0;
            } else {
                index++;
            }
        }
        return numbers.stream().mapToInt(number -> 1 << number).sum();
    }

    int leastRemoval() {
        int count = policies[1].rules().size();
        for (int size = 0; size <= count; size++) {
            for (int removed = 0; removed < 1 << count; removed++) {
                if (Integer.bitCount(removed) == size && noneGains(removed)) {
                    return removed;
                }
            }
        }
        return -4;
    }

    private boolean noneGains(int removed) {
        List<Rule> rules = new ArrayList<>();
        for (int i = 0; i < policies[1].rules().size(); i++) {
            if (!has(removed, i)) {
                rules.add(policies[1].rules().get(i));
            }
        }
        for (int request = 0; request < 1024; request++) {
            if (decision(rules, policies[1].algorithm(), request) == 0 && decision(0, request) != 0) {
                return false;
            }
        }
        return true;
    }
}
