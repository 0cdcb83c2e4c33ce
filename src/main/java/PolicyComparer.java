import java.util.Arrays;

/** A comparer for two access control policies made of permit and deny rules. */
public final class PolicyComparer {
    public static final int INVALID_ARGUMENT = -1;
    public static final int LIMIT_REACHED = -2;
    public static final int NO_CHANGE = -3;
    public static final int NOT_FOUND = -4;
    public static final int PERMIT = 0, DENY = 1, NOT_APPLICABLE = 2, INDETERMINATE = 3;
    public static final int FIRST_APPLICABLE = 0, DENY_OVERRIDES = 1, PERMIT_OVERRIDES = 2, ONLY_ONE = 3, MAJORITY = 4;

    private static final int REQUESTS = 1024;
    private static final int ATTRIBUTES = 4;
    private static final int MOST_RULES = 8;
    private static final int RULE_SETS = 256;
    private static final int MOST_CHARACTERS = 240;
    private static final int MOST_UNDOS = 4;
    private static final String INITIAL_TEXT =
        "permit:s01:r0123;deny:a3;usedenyover;new;permit:s012:r0123;deny:a3:l01;permit:s0;usefirst;";

    // By attribute: how many values it has, and where its value stands in the bits of a request's number.
    private static final int[] VALUE_COUNT = {8, 4, 8, 4};
    private static final int[] REQUEST_SHIFT = {7, 5, 2, 0};

    private final Policy oldPolicy = new Policy();
    private final Policy newPolicy = new Policy();
    private final PolicyText text = new PolicyText();
    private final History history = new History();
    private final RuleSets ruleSets = new RuleSets();

    public PolicyComparer() {
        for (int i = 0; i < INITIAL_TEXT.length(); i++) {
            text.add(INITIAL_TEXT.charAt(i));
        }
        if (text.firstMalformed() == NOT_FOUND) {
            takeDrafts();
        }
        text.empty();
    }

    // ---- policy text

    public int append(int character) {
        if (character < 32 || character > 126) {
            return INVALID_ARGUMENT;
        }
        return text.add((char) character) ? text.length() : LIMIT_REACHED;
    }

    public int clearText() {
        int before = text.length();
        text.empty();
        return before;
    }

    public int syntaxError() {
        return text.firstMalformed();
    }

    public int load() {
        if (text.firstMalformed() != NOT_FOUND) {
            return NO_CHANGE;
        }
        takeDrafts();
        history.forgetAll();
        return oldPolicy.size() + newPolicy.size();
    }

    private void takeDrafts() {
        oldPolicy.copyFrom(text.oldDraft());
        newPolicy.copyFrom(text.newDraft());
    }

    // ---- edits

    public int addRule(int policy, int index, int effect) {
        if (!isPolicy(policy) || !isEffect(effect)) {
            return INVALID_ARGUMENT;
        }
        Policy edited = policyNumbered(policy);
        if (index < 0 || index > edited.size()) {
            return INVALID_ARGUMENT;
        }
        if (edited.size() >= MOST_RULES) {
            return LIMIT_REACHED;
        }
        history.remember(policy, edited);
        edited.insertRule(index, effect);
        return edited.size();
    }

    public int removeRule(int policy, int index) {
        if (!isRule(policy, index)) {
            return INVALID_ARGUMENT;
        }
        Policy edited = policyNumbered(policy);
        history.remember(policy, edited);
        edited.dropRule(index);
        return edited.size();
    }

    public int moveRule(int policy, int from, int to) {
        if (!isRule(policy, from) || !isRule(policy, to)) {
            return INVALID_ARGUMENT;
        }
        if (from == to) {
            return NO_CHANGE;
        }
        Policy edited = policyNumbered(policy);
        history.remember(policy, edited);
        edited.shiftRule(from, to);
        return edited.effectAt(to);
    }

    public int setAlgorithm(int policy, int algorithm) {
        if (!isPolicy(policy) || algorithm < FIRST_APPLICABLE || algorithm > MAJORITY) {
            return INVALID_ARGUMENT;
        }
        Policy edited = policyNumbered(policy);
        int before = edited.algorithm();
        if (before == algorithm) {
            return NO_CHANGE;
        }
        history.remember(policy, edited);
        edited.use(algorithm);
        return before;
    }

    public int setTarget(int policy, int index, int attribute, int values) {
        if (!isRule(policy, index) || !isAttribute(attribute) || !isValueSet(attribute, values)) {
            return INVALID_ARGUMENT;
        }
        Policy edited = policyNumbered(policy);
        int before = edited.valuesAt(index, attribute);
        if (before == values) {
            return NO_CHANGE;
        }
        history.remember(policy, edited);
        edited.restrict(index, attribute, values);
        return before;
    }

    public int flipEffect(int policy, int index) {
        if (!isRule(policy, index)) {
            return INVALID_ARGUMENT;
        }
        Policy edited = policyNumbered(policy);
        history.remember(policy, edited);
        edited.turnEffect(index);
        return edited.effectAt(index);
    }

    public int copyOldToNew() {
        history.remember(1, newPolicy);
        newPolicy.copyFrom(oldPolicy);
        return newPolicy.size();
    }

    public int undo() {
        if (history.size() == 0) {
            return NO_CHANGE;
        }
        history.recallInto(policyNumbered(history.latestNumber()));
        return history.size();
    }

    // ---- policies

    public int ruleCount(int policy) {
        return isPolicy(policy) ? policyNumbered(policy).size() : INVALID_ARGUMENT;
    }

    public int effectOf(int policy, int index) {
        return isRule(policy, index) ? policyNumbered(policy).effectAt(index) : INVALID_ARGUMENT;
    }

    public int targetOf(int policy, int index, int attribute) {
        if (!isRule(policy, index) || !isAttribute(attribute)) {
            return INVALID_ARGUMENT;
        }
        return policyNumbered(policy).valuesAt(index, attribute);
    }

    public int algorithmOf(int policy) {
        return isPolicy(policy) ? policyNumbered(policy).algorithm() : INVALID_ARGUMENT;
    }

    // ---- decisions

    public int decide(int policy, int request) {
        if (!isPolicy(policy) || !isRequest(request)) {
            return INVALID_ARGUMENT;
        }
        return policyNumbered(policy).decisionOn(request);
    }

    public int decisionCount(int policy, int decision) {
        if (!isPolicy(policy) || !isDecision(decision)) {
            return INVALID_ARGUMENT;
        }
        return requestsDecided(policyNumbered(policy), decision);
    }

    public int applicableRules(int policy, int request) {
        if (!isPolicy(policy) || !isRequest(request)) {
            return INVALID_ARGUMENT;
        }
        return Integer.bitCount(policyNumbered(policy).applying(request));
    }

    private static int requestsDecided(Policy policy, int decision) {
        int count = 0;
        for (int request = 0; request < REQUESTS; request++) {
            if (policy.decisionOn(request) == decision) {
                count++;
            }
        }
        return count;
    }

    // ---- comparison

    public int gainCount() {
        return countGranted(newPolicy, oldPolicy);
    }

    public int lossCount() {
        return countGranted(oldPolicy, newPolicy);
    }

    public int gainCountOf(int attribute, int value) {
        if (!isAttribute(attribute) || value < 0 || value >= VALUE_COUNT[attribute]) {
            return INVALID_ARGUMENT;
        }
        int count = 0;
        for (int request = 0; request < REQUESTS; request++) {
            if (valueIn(request, attribute) == value && isGrantedOnlyBy(newPolicy, oldPolicy, request)) {
                count++;
            }
        }
        return count;
    }

    public int nextGain(int from) {
        return isRequest(from) ? nextGranted(newPolicy, oldPolicy, from) : INVALID_ARGUMENT;
    }

    public int nextLoss(int from) {
        return isRequest(from) ? nextGranted(oldPolicy, newPolicy, from) : INVALID_ARGUMENT;
    }

    public int transitionCount(int oldDecision, int newDecision) {
        if (!isDecision(oldDecision) || !isDecision(newDecision)) {
            return INVALID_ARGUMENT;
        }
        int count = 0;
        for (int request = 0; request < REQUESTS; request++) {
            if (oldPolicy.decisionOn(request) == oldDecision && newPolicy.decisionOn(request) == newDecision) {
                count++;
            }
        }
        return count;
    }

    public int grantedShareBits(int policy) {
        if (!isPolicy(policy)) {
            return INVALID_ARGUMENT;
        }
        return shareBits(requestsDecided(policyNumbered(policy), PERMIT));
    }

    private static boolean isGrantedOnlyBy(Policy granting, Policy other, int request) {
        return granting.decisionOn(request) == PERMIT && other.decisionOn(request) != PERMIT;
    }

    private static int countGranted(Policy granting, Policy other) {
        int count = 0;
        for (int request = 0; request < REQUESTS; request++) {
            if (isGrantedOnlyBy(granting, other, request)) {
                count++;
            }
        }
        return count;
    }

    private static int nextGranted(Policy granting, Policy other, int from) {
        for (int request = from; request < REQUESTS; request++) {
            if (isGrantedOnlyBy(granting, other, request)) {
                return request;
            }
        }
        return NOT_FOUND;
    }

    // Float.floatToIntBits is outside the language's rules, so the bits of granted / 1024 are put together
    // by hand: the highest one bit gives the exponent, the bits below it are the fraction.
    private static int shareBits(int granted) {
        if (granted <= 0) {
            return 0;
        }
        int highest = 31 - Integer.numberOfLeadingZeros(granted);
        int exponent = 127 - 10 + highest;
        int fraction = (granted << (23 - highest)) & 0x7FFFFF;
        return (exponent << 23) | fraction;
    }

    // ---- rules that do not matter

    public int isRedundant(int policy, int index) {
        if (!isRule(policy, index)) {
            return INVALID_ARGUMENT;
        }
        return firstChangeWithout(policyNumbered(policy), index) == NOT_FOUND ? 1 : 0;
    }

    public int witness(int policy, int index) {
        return isRule(policy, index) ? firstChangeWithout(policyNumbered(policy), index) : INVALID_ARGUMENT;
    }

    public int irredundantCore(int policy) {
        if (!isPolicy(policy)) {
            return INVALID_ARGUMENT;
        }
        Policy examined = policyNumbered(policy);
        ruleSets.empty();
        for (int request = 0; request < REQUESTS; request++) {
            ruleSets.add(examined.applying(request));
        }
        int kept = examined.allRules();
        int redundant = lowestRedundant(examined, kept);
        for (int round = 0; round < MOST_RULES && redundant != 0; round++) {
            kept &= ~redundant;
            redundant = lowestRedundant(examined, kept);
        }
        return kept;
    }

    public int leastRemoval() {
        ruleSets.empty();
        for (int request = 0; request < REQUESTS; request++) {
            if (oldPolicy.decisionOn(request) != PERMIT) {
                ruleSets.add(newPolicy.applying(request));
            }
        }
        int all = newPolicy.allRules();
        int best = NOT_FOUND;
        int fewest = MOST_RULES + 1;
        for (int removed = 0; removed <= all; removed++) {
            if (Integer.bitCount(removed) < fewest && !ruleSets.anyGranted(newPolicy, all & ~removed)) {
                best = removed;
                fewest = Integer.bitCount(removed);
            }
        }
        return best;
    }

    private static int firstChangeWithout(Policy policy, int index) {
        int others = ~(1 << index);
        for (int request = 0; request < REQUESTS; request++) {
            int applying = policy.applying(request);
            if (policy.decisionAmong(applying) != policy.decisionAmong(applying & others)) {
                return request;
            }
        }
        return NOT_FOUND;
    }

    /** The bit of the lowest kept rule that the kept rules do not need, 0 if they need all. */
    private int lowestRedundant(Policy policy, int kept) {
        for (int index = 0; index < MOST_RULES; index++) {
            int bit = 1 << index;
            if ((kept & bit) != 0 && ruleSets.sameDecisions(policy, kept, kept & ~bit)) {
                return bit;
            }
        }
        return 0;
    }

    // ---- history

    public int historySize() {
        return history.size();
    }

    // ---- ranges of arguments

    private static boolean isPolicy(int number) {
        return number == 0 || number == 1;
    }

    private static boolean isEffect(int effect) {
        return effect == PERMIT || effect == DENY;
    }

    private static boolean isAttribute(int attribute) {
        return attribute >= 0 && attribute < ATTRIBUTES;
    }

    private static boolean isRequest(int request) {
        return request >= 0 && request < REQUESTS;
    }

    private static boolean isDecision(int decision) {
        return decision >= PERMIT && decision <= INDETERMINATE;
    }

    private static boolean isValueSet(int attribute, int values) {
        return values > 0 && values < 1 << VALUE_COUNT[attribute];
    }

    private boolean isRule(int policy, int index) {
        return isPolicy(policy) && index >= 0 && index < policyNumbered(policy).size();
    }

    private Policy policyNumbered(int number) {
        return number == 0 ? oldPolicy : newPolicy;
    }

    private static int valueIn(int request, int attribute) {
        return (request >> REQUEST_SHIFT[attribute]) & (VALUE_COUNT[attribute] - 1);
    }

    /**
     * A list of rules and a combining algorithm. The rules are held crosswise: a row for each value of each
     * attribute, in which bit i tells whether the target of rule i has that value, and one row more, in which
     * bit i tells whether rule i denies. So the rules that apply to a request are four rows and'ed together.
     * Bits at and above the number of rules are 0 in every row.
     */
    private static final class Policy {
        private static final int SUBJECT_ROW = 0, ACTION_ROW = 8, RESOURCE_ROW = 12, LEVEL_ROW = 20;
        private static final int DENY_ROW = 24;
        private static final int ROWS = 25;
        private static final int SAVED_CELLS = ROWS + 2;
        private static final int[] FIRST_ROW = {SUBJECT_ROW, ACTION_ROW, RESOURCE_ROW, LEVEL_ROW};

        private final int[] rows = new int[ROWS];
        private int count = 0;
        private int algorithm = FIRST_APPLICABLE;

        int size() {
            return count;
        }

        int algorithm() {
            return algorithm;
        }

        void use(int wanted) {
            algorithm = wanted;
        }

        void empty() {
            Arrays.fill(rows, 0);
            count = 0;
            algorithm = FIRST_APPLICABLE;
        }

        void copyFrom(Policy other) {
            System.arraycopy(other.rows, 0, rows, 0, ROWS);
            count = other.count;
            algorithm = other.algorithm;
        }

        void saveInto(int[] cells, int at) {
            if (at < 0 || at > cells.length - SAVED_CELLS) {
                return;
            }
            System.arraycopy(rows, 0, cells, at, ROWS);
            cells[at + ROWS] = count;
            cells[at + ROWS + 1] = algorithm;
        }

        void restoreFrom(int[] cells, int at) {
            if (at < 0 || at > cells.length - SAVED_CELLS) {
                return;
            }
            System.arraycopy(cells, at, rows, 0, ROWS);
            count = cells[at + ROWS];
            algorithm = cells[at + ROWS + 1];
        }

        void insertRule(int index, int effect) {
            for (int row = 0; row < DENY_ROW; row++) {
                rows[row] = withBitInserted(rows[row], index, 1);
            }
            rows[DENY_ROW] = withBitInserted(rows[DENY_ROW], index, effect == DENY ? 1 : 0);
            count++;
        }

        void dropRule(int index) {
            for (int row = 0; row < ROWS; row++) {
                rows[row] = withBitDropped(rows[row], index);
            }
            count--;
        }

        void shiftRule(int from, int to) {
            for (int row = 0; row < ROWS; row++) {
                int bit = (rows[row] >> from) & 1;
                rows[row] = withBitInserted(withBitDropped(rows[row], from), to, bit);
            }
        }

        void restrict(int index, int attribute, int values) {
            int first = FIRST_ROW[attribute];
            for (int value = 0; value < VALUE_COUNT[attribute]; value++) {
                int bit = (values >> value) & 1;
                rows[first + value] = (rows[first + value] & ~(1 << index)) | (bit << index);
            }
        }

        int valuesAt(int index, int attribute) {
            int first = FIRST_ROW[attribute];
            int values = 0;
            for (int value = 0; value < VALUE_COUNT[attribute]; value++) {
                values |= ((rows[first + value] >> index) & 1) << value;
            }
            return values;
        }

        void turnEffect(int index) {
            rows[DENY_ROW] ^= 1 << index;
        }

        int effectAt(int index) {
            return ((rows[DENY_ROW] >> index) & 1) != 0 ? DENY : PERMIT;
        }

        int allRules() {
            return (1 << count) - 1;
        }

        int applying(int request) {
            // Written out, as most calls come here a thousand times; the masks keep every index below DENY_ROW.
            return rows[SUBJECT_ROW + ((request >> 7) & 7)]
                & rows[ACTION_ROW + ((request >> 5) & 3)]
                & rows[RESOURCE_ROW + ((request >> 2) & 7)]
                & rows[LEVEL_ROW + (request & 3)];
        }

        int decisionOn(int request) {
            return decisionAmong(applying(request));
        }

        /** The decision where just the rules of this set apply. */
        int decisionAmong(int applying) {
            if (applying == 0) {
                return NOT_APPLICABLE;
            }
            int denying = applying & rows[DENY_ROW];
            switch (algorithm) {
                case FIRST_APPLICABLE:
                    return (denying & Integer.lowestOneBit(applying)) != 0 ? DENY : PERMIT;
                case DENY_OVERRIDES:
                    return denying != 0 ? DENY : PERMIT;
                case PERMIT_OVERRIDES:
                    return denying != applying ? PERMIT : DENY;
                case ONLY_ONE:
                    return Integer.bitCount(applying) > 1 ? INDETERMINATE : denying != 0 ? DENY : PERMIT;
                default:
                    return majority(Integer.bitCount(applying & ~denying), Integer.bitCount(denying));
            }
        }

        private static int majority(int permitting, int denying) {
            if (permitting == denying) {
                return INDETERMINATE;
            }
            return permitting > denying ? PERMIT : DENY;
        }

        private static int withBitInserted(int row, int index, int bit) {
            int below = (1 << index) - 1;
            return (row & below) | (bit << index) | ((row & ~below) << 1);
        }

        private static int withBitDropped(int row, int index) {
            int below = (1 << index) - 1;
            return (row & below) | ((row >> 1) & ~below);
        }
    }

    /** The policy text, and the two policies that it spells. */
    private static final class PolicyText {
        private static final String ATTRIBUTE_LETTERS = "sarl";

        private final char[] characters = new char[MOST_CHARACTERS];
        private final Policy oldDraft = new Policy();
        private final Policy newDraft = new Policy();
        private Policy selected = oldDraft;
        private int length = 0;
        private int position = 0;

        int length() {
            return length;
        }

        Policy oldDraft() {
            return oldDraft;
        }

        Policy newDraft() {
            return newDraft;
        }

        boolean add(char character) {
            if (length < 0 || length >= characters.length) {
                return false;
            }
            characters[length] = character;
            length++;
            return true;
        }

        void empty() {
            length = 0;
        }

        /** Where the first malformed statement begins; if it is NOT_FOUND, the drafts are the text's policies. */
        int firstMalformed() {
            oldDraft.empty();
            newDraft.empty();
            selected = oldDraft;
            position = 0;
            // Each statement takes at least its semicolon, so there are no more of them than characters.
            for (int statement = 0; statement < MOST_CHARACTERS && position < length; statement++) {
                int start = position;
                if (!readStatement() || !accept(";")) {
                    return start;
                }
            }
            return NOT_FOUND;
        }

        private boolean readStatement() {
            if (accept("old")) {
                selected = oldDraft;
                return true;
            }
            if (accept("new")) {
                selected = newDraft;
                return true;
            }
            if (accept("use")) {
                return readAlgorithm();
            }
            if (accept("permit")) {
                return readRule(PERMIT);
            }
            return accept("deny") && readRule(DENY);
        }

        private boolean readAlgorithm() {
            int algorithm = NOT_FOUND;
            if (accept("first")) {
                algorithm = FIRST_APPLICABLE;
            } else if (accept("denyover")) {
                algorithm = DENY_OVERRIDES;
            } else if (accept("permitover")) {
                algorithm = PERMIT_OVERRIDES;
            } else if (accept("onlyone")) {
                algorithm = ONLY_ONE;
            } else if (accept("majority")) {
                algorithm = MAJORITY;
            }
            if (algorithm == NOT_FOUND) {
                return false;
            }
            selected.use(algorithm);
            return true;
        }

        private boolean readRule(int effect) {
            int index = selected.size();
            if (index >= MOST_RULES) {
                return false;
            }
            selected.insertRule(index, effect);
            int constrained = 0;
            // A fifth constraint would repeat an attribute; it is left to fail where the semicolon is due.
            for (int constraint = 0; constraint < ATTRIBUTES && accept(":"); constraint++) {
                int attribute = readAttribute();
                if (attribute < 0 || ((constrained >> attribute) & 1) != 0) {
                    return false;
                }
                constrained |= 1 << attribute;
                int values = readValues(VALUE_COUNT[attribute]);
                if (values == 0) {
                    return false;
                }
                selected.restrict(index, attribute, values);
            }
            return true;
        }

        private int readAttribute() {
            for (int attribute = 0; attribute < ATTRIBUTES; attribute++) {
                if (acceptCharacter(ATTRIBUTE_LETTERS.charAt(attribute))) {
                    return attribute;
                }
            }
            return NOT_FOUND;
        }

        /**
         * Takes digits while they are values and new. A digit too high or there already is not taken, and so
         * spoils the statement, as neither a constraint nor the semicolon begins with it.
         */
        private int readValues(int valueCount) {
            int values = 0;
            for (int taken = 0; taken < valueCount && position < length; taken++) {
                int value = characters[position] - '0';
                if (value < 0 || value >= valueCount || ((values >> value) & 1) != 0) {
                    return values;
                }
                values |= 1 << value;
                position++;
            }
            return values;
        }

        private boolean acceptCharacter(char wanted) {
            if (position >= length || characters[position] != wanted) {
                return false;
            }
            position++;
            return true;
        }

        private boolean accept(String word) {
            if (word.length() > length - position) {
                return false;
            }
            for (int i = 0; i < word.length(); i++) {
                if (characters[position + i] != word.charAt(i)) {
                    return false;
                }
            }
            position += word.length();
            return true;
        }
    }

    /** The latest edits: for each, the policy that it changed, as it was before. */
    private static final class History {
        private final int[] numbers = new int[MOST_UNDOS];
        private final int[] cells = new int[MOST_UNDOS * Policy.SAVED_CELLS];
        private int size = 0;

        int size() {
            return size;
        }

        void forgetAll() {
            size = 0;
        }

        void remember(int number, Policy policy) {
            if (size >= MOST_UNDOS) {
                forgetOldest();
            }
            numbers[size] = number;
            policy.saveInto(cells, size * Policy.SAVED_CELLS);
            size++;
        }

        int latestNumber() {
            return size > 0 ? numbers[size - 1] : 0;
        }

        void recallInto(Policy policy) {
            if (size > 0) {
                size--;
                policy.restoreFrom(cells, size * Policy.SAVED_CELLS);
            }
        }

        private void forgetOldest() {
            System.arraycopy(numbers, 1, numbers, 0, MOST_UNDOS - 1);
            System.arraycopy(cells, Policy.SAVED_CELLS, cells, 0, (MOST_UNDOS - 1) * Policy.SAVED_CELLS);
            size = MOST_UNDOS - 1;
        }
    }

    /** Sets of rules that apply together, each kept once: many requests share one, which spares most of the work. */
    private static final class RuleSets {
        private final int[] sets = new int[RULE_SETS];
        private final boolean[] held = new boolean[RULE_SETS];
        private int count = 0;

        void empty() {
            for (int set = 0; set < RULE_SETS; set++) {
                held[set] = false;
            }
            count = 0;
        }

        void add(int set) {
            if (set < 0 || set >= RULE_SETS || held[set] || count >= RULE_SETS) {
                return;
            }
            held[set] = true;
            sets[count] = set;
            count++;
        }

        boolean anyGranted(Policy policy, int kept) {
            for (int i = 0; i < count; i++) {
                if (policy.decisionAmong(sets[i] & kept) == PERMIT) {
                    return true;
                }
            }
            return false;
        }

        boolean sameDecisions(Policy policy, int kept, int fewer) {
            for (int i = 0; i < count; i++) {
                if (policy.decisionAmong(sets[i] & kept) != policy.decisionAmong(sets[i] & fewer)) {
                    return false;
                }
            }
            return true;
        }
    }
}
