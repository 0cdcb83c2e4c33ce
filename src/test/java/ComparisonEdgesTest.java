/** The boundary cases of the comparison of both policies, sentence by sentence: promises 21 to 27. */
public final class ComparisonEdgesTest {
    /** Texts whose policy decides every request in one way: PERMIT, DENY, NOT_APPLICABLE, INDETERMINATE. */
    private static final String[] DECIDING = {"permit;", "deny;", "", "useonlyone;permit;permit;"};

    public static void main(String[] args) {
        Check.finish(granted(), gainsAndLosses(), noneOrAll(), oneGain(), oneLoss(), attributeCounts(), nextGains(), nextLosses(),
            nothingNext(), transitions(), shares(), shareEnds());
    }

    private static PolicyComparer deciding(int old, int added) {
        return Check.loaded(DECIDING[old] + "new;" + DECIDING[added]);
    }

    private static String ruleFor(int request) {
        return Check.ruleFor("permit", request);
    }

    private static Check granted() {
        Check check = new Check("A request is granted by a policy if the decision is PERMIT");
        for (int decision = 0; decision < 4; decision++) {
            PolicyComparer x = deciding(decision, decision);
            check.due("the old share where all is " + decision, x.grantedShareBits(0), decision == 0 ? 0x3F800000 : 0);
            check.due("the new share where all is " + decision, x.grantedShareBits(1), decision == 0 ? 0x3F800000 : 0);
            check.due("gainCount() over a denial", deciding(1, decision).gainCount(), decision == 0 ? 1024 : 0);
        }
        return check;
    }

    private static Check gainsAndLosses() {
        Check check = new Check("A request gains if the new policy grants it and the old policy does not; "
            + "it loses if the old policy grants it and the new policy does not");
        for (int old = 0; old < 4; old++) {
            for (int added = 0; added < 4; added++) {
                boolean gains = added == 0 && old != 0;
                boolean loses = old == 0 && added != 0;
                String of = " of " + old + " to " + added;
                PolicyComparer x = deciding(old, added);
                check.due("gainCount()" + of, x.gainCount(), gains ? 1024 : 0);
                check.due("lossCount()" + of, x.lossCount(), loses ? 1024 : 0);
                check.due("gainCountOf(0, 7)" + of, x.gainCountOf(0, 7), gains ? 128 : 0);
                check.due("nextGain(5)" + of, x.nextGain(5), gains ? 5 : -4);
                check.due("nextLoss(5)" + of, x.nextLoss(5), loses ? 5 : -4);
                check.holds("leastRemoval()" + of, x.leastRemoval() == 0 == !gains);
            }
        }
        return check;
    }

    // ---- promises 21 to 23

    private static Check noneOrAll() {
        Check check = new Check("promises 21 and 22: Returns 0 to 1024");
        check.due("gainCount() of no rules", Check.loaded("").gainCount(), 0);
        check.due("lossCount() of no rules", Check.loaded("").lossCount(), 0);
        check.due("gainCount() of all", deciding(2, 0).gainCount(), 1024);
        check.due("lossCount() of all", deciding(0, 2).lossCount(), 1024);
        check.due("gainCount() of all but request 0", Check.loaded(ruleFor(0) + "new;permit;").gainCount(), 1023);
        check.due("gainCount() of all but request 1023", Check.loaded(ruleFor(1023) + "new;permit;").gainCount(), 1023);
        check.due("lossCount() of all but request 0", Check.loaded("permit;new;" + ruleFor(0)).lossCount(), 1023);
        check.due("lossCount() of all but request 1023", Check.loaded("permit;new;" + ruleFor(1023)).lossCount(), 1023);
        return check;
    }

    /** Each request gains alone once. */
    private static Check oneGain() {
        Check check = new Check("promise 21: Counts the requests that gain (one alone)");
        for (int request = 0; request < 1024; request++) {
            PolicyComparer x = Check.loaded("new;" + ruleFor(request));
            check.due("gainCount() of request " + request, x.gainCount(), 1);
            check.due("lossCount() of request " + request, x.lossCount(), 0);
        }
        return check;
    }

    private static Check oneLoss() {
        Check check = new Check("promise 22: Counts the requests that lose (one alone)");
        for (int request = 0; request < 1024; request++) {
            PolicyComparer x = Check.loaded(ruleFor(request));
            check.due("gainCount() of request " + request, x.gainCount(), 0);
            check.due("lossCount() of request " + request, x.lossCount(), 1);
        }
        return check;
    }

    private static Check attributeCounts() {
        Check check = new Check("promise 23: Returns the number of such requests");
        for (int attribute = 0; attribute < 4; attribute++) {
            int size = Check.SIZES[attribute];
            for (int value = 0; value < size; value++) {
                String of = "gainCountOf(" + attribute + ", " + value + ")";
                check.due(of + " of all", deciding(1, 0).gainCountOf(attribute, value), 1024 / size);
                check.due(of + " of none", deciding(0, 0).gainCountOf(attribute, value), 0);
                check.due(of + " of losses", deciding(0, 1).gainCountOf(attribute, value), 0);
                PolicyComparer x = Check.loaded("new;permit:" + "sarl".charAt(attribute) + value + ";");
                for (int asked = 0; asked < size; asked++) {
                    check.due("gainCountOf(" + attribute + ", " + asked + ")", x.gainCountOf(attribute, asked),
                        asked == value ? 1024 / size : 0);
                }
                for (int other = 0; other < 4; other++) {
                    check.due("gainCountOf(" + other + ", 0) of " + of, x.gainCountOf(other, 0),
                        other != attribute ? 1024 / size / Check.SIZES[other] : value == 0 ? 1024 / size : 0);
                }
            }
        }
        return check;
    }

    // ---- promises 24 and 25

    private static Check nextGains() {
        Check check = new Check("promise 24: Returns the least request number that is at least from and gains");
        for (int request = 0; request < 1024; request++) {
            PolicyComparer x = Check.loaded("new;" + ruleFor(request));
            check.due("nextGain(0) of " + request, x.nextGain(0), request);
            check.due("nextGain(" + request + ")", x.nextGain(request), request);
            check.due("nextGain(" + (request + 1) + ")", x.nextGain(request + 1), request == 1023 ? -1 : -4);
            check.due("nextLoss(0)", x.nextLoss(0), -4);
            check.due("nextGain of all", deciding(3, 0).nextGain(request), request);
        }
        PolicyComparer ends = Check.loaded("new;" + ruleFor(0) + ruleFor(1023));
        check.due("nextGain(0)", ends.nextGain(0), 0);
        check.due("nextGain(1)", ends.nextGain(1), 1023);
        return check;
    }

    private static Check nextLosses() {
        Check check = new Check("promise 25: Returns the least request number that is at least from and loses");
        for (int request = 0; request < 1024; request++) {
            PolicyComparer x = Check.loaded(ruleFor(request));
            check.due("nextLoss(0) of " + request, x.nextLoss(0), request);
            check.due("nextLoss(" + request + ")", x.nextLoss(request), request);
            check.due("nextLoss(" + (request + 1) + ")", x.nextLoss(request + 1), request == 1023 ? -1 : -4);
            check.due("nextGain(0)", x.nextGain(0), -4);
            check.due("nextLoss of all", deciding(0, 3).nextLoss(request), request);
        }
        PolicyComparer ends = Check.loaded(ruleFor(0) + ruleFor(1023));
        check.due("nextLoss(0)", ends.nextLoss(0), 0);
        check.due("nextLoss(1)", ends.nextLoss(1), 1023);
        return check;
    }

    private static Check nothingNext() {
        Check check = new Check("promises 24 and 25: NOT_FOUND if there is none");
        for (int from : new int[] {0, 1, 512, 1022, 1023}) {
            check.due("nextGain of no rules", Check.loaded("").nextGain(from), -4);
            check.due("nextLoss of no rules", Check.loaded("").nextLoss(from), -4);
            check.due("nextGain of what both grant", deciding(0, 0).nextGain(from), -4);
            check.due("nextLoss of what both grant", deciding(0, 0).nextLoss(from), -4);
        }
        return check;
    }

    // ---- promises 26 and 27

    private static Check transitions() {
        Check check = new Check("promise 26: Returns the number of requests with exactly these two decisions");
        for (int pair = 0; pair < 16; pair++) {
            PolicyComparer x = deciding(pair / 4, pair % 4);
            for (int asked = 0; asked < 16; asked++) {
                check.due("transitionCount(" + asked / 4 + ", " + asked % 4 + ") of " + pair / 4 + " and " + pair % 4,
                    x.transitionCount(asked / 4, asked % 4), asked == pair ? 1024 : 0);
            }
        }
        // Subjects tell the old decision, actions the new one.
        PolicyComparer x = Check.loaded("useonlyone;permit:s0;deny:s1;deny:s3;deny:s3;new;useonlyone;permit:a03;deny:a13;");
        int[] subjects = {1, 1, 5, 1};
        for (int asked = 0; asked < 16; asked++) {
            check.due("transitionCount(" + asked / 4 + ", " + asked % 4 + ")", x.transitionCount(asked / 4, asked % 4),
                32 * subjects[asked / 4]);
        }
        return check;
    }

    /** Four rules that together permit the requests below this number. */
    private static String firstRequests(int number) {
        String subject = ":s" + number / 128;
        String action = subject + ":a" + number / 32 % 4;
        String resource = action + ":r" + number / 4 % 8;
        return below("permit:s", number / 128) + below("permit" + subject + ":a", number / 32 % 4)
            + below("permit" + action + ":r", number / 4 % 8) + below("permit" + resource + ":l", number % 4);
    }

    private static String below(String rule, int value) {
        return value == 0 ? "" : rule + "01234567".substring(0, value) + ";";
    }

    private static Check shares() {
        Check check = new Check("promise 27: the number of granted requests divided by 1024; the bits of the float");
        for (int number = 0; number <= 1024; number++) {
            int due = Float.floatToIntBits(number / 1024f);
            PolicyComparer x = Check.loaded(firstRequests(number));
            check.due("decisionCount(0, 0) of " + number, x.decisionCount(0, 0), number);
            check.due("grantedShareBits(0) of " + number, x.grantedShareBits(0), due);
            check.due("grantedShareBits(1) of none", x.grantedShareBits(1), 0);
            x.copyOldToNew();
            check.due("grantedShareBits(1) of " + number, x.grantedShareBits(1), due);
        }
        return check;
    }

    private static Check shareEnds() {
        Check check = new Check("promise 27: the bits of the float as by Float.floatToIntBits (the ends, written out)");
        check.due("no request", Check.loaded("").grantedShareBits(0), 0);
        check.due("one request", Check.loaded(ruleFor(1023)).grantedShareBits(0), 0x3A800000);
        check.due("half of them", Check.loaded("permit:s0123;").grantedShareBits(0), 0x3F000000);
        check.due("all but one", Check.loaded(firstRequests(1023)).grantedShareBits(0), 0x3F7FC000);
        check.due("all of them", Check.loaded("permit;").grantedShareBits(0), 0x3F800000);
        return check;
    }
}
