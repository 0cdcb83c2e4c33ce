/** Promises 21 to 31, ordinary inputs: the comparison of both policies, and the rules that do not matter. */
public final class ComparisonTest {
    private static final String FIRST_REQUEST = "permit:s0:a0:r0:l0;";
    private static final String LAST_REQUEST = "permit:s7:a3:r7:l3;";

    public static void main(String[] args) {
        Check.finish(counts(), gainCountOf(), nextGain(), nextLoss(), transitionCount(), grantedShareBits(),
            isRedundant(), witness(), irredundantCore(), leastRemoval());
    }

    /** The old policy grants subject 0, the new one action 0: 32 requests are granted by both. */
    private static PolicyComparer crossed() {
        return Check.loaded("permit:s0;new;permit:a0;");
    }

    private static Check counts() {
        Check check = new Check("promises 21 and 22");
        check.due("gainCount()", crossed().gainCount(), 224);
        check.due("lossCount()", crossed().lossCount(), 96);
        check.due("gainCount() of a new object", new PolicyComparer().gainCount(), 152);
        check.due("lossCount() of a new object", new PolicyComparer().lossCount(), 0);
        PolicyComparer all = Check.loaded("deny;new;permit;");
        check.due("gainCount() of all", all.gainCount(), 1024);
        check.due("lossCount() of none", all.lossCount(), 0);
        PolicyComparer none = Check.loaded("permit;new;usemajority;permit;deny;");
        check.due("gainCount() of none", none.gainCount(), 0);
        check.due("lossCount() of all", none.lossCount(), 1024);
        return check;
    }

    private static Check gainCountOf() {
        Check check = new Check("promise 23");
        PolicyComparer x = crossed();
        check.due("gainCountOf(0, 0)", x.gainCountOf(0, 0), 0);
        check.due("gainCountOf(0, 7)", x.gainCountOf(0, 7), 32);
        check.due("gainCountOf(1, 0)", x.gainCountOf(1, 0), 224);
        check.due("gainCountOf(1, 3)", x.gainCountOf(1, 3), 0);
        check.due("gainCountOf(2, 7)", x.gainCountOf(2, 7), 28);
        check.due("gainCountOf(3, 3)", x.gainCountOf(3, 3), 56);
        PolicyComparer one = Check.loaded("new;permit:s6:a1:r5:l2;");
        int[] values = {6, 1, 5, 2};
        int[] sizes = {8, 4, 8, 4};
        for (int attribute = 0; attribute < 4; attribute++) {
            for (int value = 0; value < sizes[attribute]; value++) {
                check.due("gainCountOf(" + attribute + ", " + value + ") of one", one.gainCountOf(attribute, value),
                    value == values[attribute] ? 1 : 0);
            }
        }
        for (int attribute = 0; attribute < 4; attribute++) {
            check.due("gainCountOf(" + attribute + ", 0) of request 0",
                Check.loaded("new;" + FIRST_REQUEST).gainCountOf(attribute, 0), 1);
        }
        return check;
    }

    private static Check nextGain() {
        Check check = new Check("promise 24");
        PolicyComparer x = crossed();
        check.due("nextGain(0)", x.nextGain(0), 128);
        check.due("nextGain(128)", x.nextGain(128), 128);
        check.due("nextGain(159)", x.nextGain(159), 159);
        check.due("nextGain(160)", x.nextGain(160), 256);
        check.due("nextGain(927)", x.nextGain(927), 927);
        check.due("nextGain(928)", x.nextGain(928), -4);
        check.due("nextGain(1023)", x.nextGain(1023), -4);
        check.due("nextGain(1) of request 0", Check.loaded("new;" + FIRST_REQUEST).nextGain(1), -4);
        check.due("nextGain(1023) of all", Check.loaded("new;permit;").nextGain(1023), 1023);
        return check;
    }

    private static Check nextLoss() {
        Check check = new Check("promise 25");
        PolicyComparer x = crossed();
        check.due("nextLoss(0)", x.nextLoss(0), 32);
        check.due("nextLoss(32)", x.nextLoss(32), 32);
        check.due("nextLoss(127)", x.nextLoss(127), 127);
        check.due("nextLoss(128)", x.nextLoss(128), -4);
        check.due("nextLoss(1) of request 0", Check.loaded(FIRST_REQUEST).nextLoss(1), -4);
        check.due("nextLoss(1023) of all", Check.loaded("permit;").nextLoss(1023), 1023);
        return check;
    }

    private static Check transitionCount() {
        Check check = new Check("promise 26");
        PolicyComparer x = Check.loaded("permit:s0;deny:s1;new;usemajority;permit:a0;deny:a0;deny:l0;");
        int[][] due = {{0, 32, 72, 24}, {0, 32, 72, 24}, {0, 192, 432, 144}, {0, 0, 0, 0}};
        for (int before = 0; before < 4; before++) {
            for (int after = 0; after < 4; after++) {
                check.due("transitionCount(" + before + ", " + after + ")", x.transitionCount(before, after), due[before][after]);
            }
        }
        return check;
    }

    private static Check grantedShareBits() {
        Check check = new Check("promise 27");
        check.due("grantedShareBits(1)", crossed().grantedShareBits(1), Float.floatToIntBits(256f / 1024f));
        check.due("grantedShareBits(1) of a new object", new PolicyComparer().grantedShareBits(1),
            Float.floatToIntBits(248f / 1024f));
        check.due("grantedShareBits(0) of none", Check.loaded("deny;").grantedShareBits(0), 0);
        check.due("grantedShareBits(0) of all", Check.loaded("permit;").grantedShareBits(0), Float.floatToIntBits(1f));
        check.due("grantedShareBits(0) of one", Check.loaded("permit:s0:a0:r0:l0;").grantedShareBits(0),
            Float.floatToIntBits(1f / 1024f));
        check.due("grantedShareBits(0) of 1023", Check.loaded("deny:s0:a0:r0:l0;permit;").grantedShareBits(0),
            Float.floatToIntBits(1023f / 1024f));
        return check;
    }

    private static Check isRedundant() {
        Check check = new Check("promise 28");
        PolicyComparer x = Check.loaded("permit:s0;permit:s0;new;deny:s012;permit:s1;deny:s3;");
        check.due("isRedundant(0, 0)", x.isRedundant(0, 0), 1);
        check.due("isRedundant(0, 1)", x.isRedundant(0, 1), 1);
        check.due("isRedundant(1, 0)", x.isRedundant(1, 0), 0);
        check.due("isRedundant(1, 1)", x.isRedundant(1, 1), 1);
        check.due("isRedundant(1, 2)", x.isRedundant(1, 2), 0);
        x.setAlgorithm(0, 3);
        check.due("isRedundant(0, 0) where one alone decides", x.isRedundant(0, 0), 0);
        x.setAlgorithm(1, 2);
        check.due("isRedundant(1, 1) where a permit overrides", x.isRedundant(1, 1), 0);
        return check;
    }

    private static Check witness() {
        Check check = new Check("promise 29");
        PolicyComparer x = Check.loaded("permit:s4:l2;permit:s4;new;deny:s012;permit:s12;deny:s3:r7:l3;");
        check.due("witness(0, 0)", x.witness(0, 0), -4);
        check.due("witness(0, 1)", x.witness(0, 1), 512);
        check.due("witness(1, 0)", x.witness(1, 0), 0);
        check.due("witness(1, 1)", x.witness(1, 1), -4);
        check.due("witness(1, 2)", x.witness(1, 2), 415);
        x.setAlgorithm(0, 3);
        check.due("witness(0, 0) where one alone decides", x.witness(0, 0), 514);
        check.due("witness(0, 0) of the last request", Check.loaded(LAST_REQUEST).witness(0, 0), 1023);
        return check;
    }

    private static Check irredundantCore() {
        Check check = new Check("promise 30");
        check.due("core of twins", Check.loaded("permit:s0;permit:s0;").irredundantCore(0), 2);
        check.due("core of four alike", Check.loaded("permit;permit;permit;permit;").irredundantCore(0), 8);
        check.due("core behind a deny of all", Check.loaded("deny;permit:s0;deny:a1;").irredundantCore(0), 1);
        check.due("core of request 0", Check.loaded(FIRST_REQUEST).irredundantCore(0), 1);
        check.due("core of request 1023", Check.loaded(LAST_REQUEST).irredundantCore(0), 1);
        check.due("core of none", Check.loaded("").irredundantCore(0), 0);
        PolicyComparer x = Check.loaded("new;permit:s01;deny:s01;permit:s0;usedenyover;");
        check.due("core where a deny overrides", x.irredundantCore(1), 2);
        check.due("core of eight that all count", Check.loaded(
            "permit:s0;permit:s1;permit:s2;permit:s3;permit:s4;permit:s5;permit:s6;deny:s7;").irredundantCore(0), 255);
        check.due("core where one alone decides",
            Check.loaded("useonlyone;permit;permit;permit;permit;permit;permit;permit;permit;").irredundantCore(0), 192);
        check.due("core of a tie", Check.loaded("usemajority;permit;deny;").irredundantCore(0), 3);
        // The deny goes first, then the first permit is one too many.
        check.due("core where more decide", Check.loaded("usemajority;permit;permit;deny;").irredundantCore(0), 2);
        laterRedundant(check);
        return check;
    }

    /** Rule 0 is needed against rule 1 while rule 1 stands, and rule 1 falls only behind rule 0. */
    private static void laterRedundant(Check check) {
        PolicyComparer x = Check.loaded("deny:s0;permit:s0;deny:s0;");
        check.due("isRedundant(0, 0)", x.isRedundant(0, 0), 0);
        check.due("isRedundant(0, 1)", x.isRedundant(0, 1), 1);
        check.due("core where a lower rule falls after a higher one", x.irredundantCore(0), 4);
    }

    private static Check leastRemoval() {
        Check check = new Check("promise 31");
        check.due("where nothing gains", Check.loaded("permit;new;permit;").leastRemoval(), 0);
        check.due("where the new policy is empty", Check.loaded("permit;").leastRemoval(), 0);
        check.due("of the one rule", Check.loaded("new;permit;").leastRemoval(), 1);
        check.due("of request 0", Check.loaded("new;" + FIRST_REQUEST).leastRemoval(), 1);
        check.due("of request 1023", Check.loaded("new;" + LAST_REQUEST).leastRemoval(), 1);
        check.due("of all eight", Check.loaded("new;" + "permit;".repeat(8)).leastRemoval(), 255);
        check.due("of the higher one", Check.loaded("permit:s0;new;permit:s0;permit:s1;").leastRemoval(), 2);
        check.due("of one where its like stays", Check.loaded("new;deny:s0;permit:s1;").leastRemoval(), 2);
        // Without rule 0 rules 1 and 2 cancel each other; without rule 1 there would be a denial.
        check.due("of the least mask among two", Check.loaded("new;usemajority;permit;permit;deny;").leastRemoval(), 1);
        // One rule of a high number comes before two rules of low numbers.
        check.due("of the fewest", Check.loaded("new;usemajority;permit:s0;permit:s1;deny:s01;permit:s01;").leastRemoval(), 8);
        PolicyComparer x = new PolicyComparer();
        String before = Check.state(x);
        check.due("of a new object", x.leastRemoval(), 5);
        check.sameText("the state after it", Check.state(x), before);
        return check;
    }
}
