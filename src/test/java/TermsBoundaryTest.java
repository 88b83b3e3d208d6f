/** The sentences of 'What it is' and 'Terms' that name a boundary case: a test of its own for each. */
public final class TermsBoundaryTest {
    public static void main(String[] args) {
        Checks.sentence("An object is used for at most 512 calls after it has been made",
                TermsBoundaryTest::fiveHundredTwelfthCall);
        packets();
        kinds();
        filters();
        tables();
        Checks.end();
    }

    private static void packets() {
        Checks.sentence("A PACKET has FIELDS 0 .. 2 with values 0 .. 3", TermsBoundaryTest::everyFieldAndValue);
        Checks.sentence("its CODE is 16 times that of field 0 plus 4 times that of field 1 plus that of field 2 (0 .. 63)",
                TermsBoundaryTest::leastAndGreatestCode);
        Checks.sentence("A SET of packets is a long with the bit of each packet's code", TermsBoundaryTest::everyBitOfASet);
    }

    private static void kinds() {
        Checks.sentence("POLICIES are numbered 0, 1, .. as they are made", TermsBoundaryTest::firstAndLastNumber);
        Checks.sentence("at most 50", TermsBoundaryTest::fiftyButNoMore);
        Checks.sentence("0 DROP: none", TermsBoundaryTest::dropGivesNone);
        Checks.sentence("1 PASS: the packet", TermsBoundaryTest::passGivesThePacket);
        Checks.sentence("2 TEST: the packet if its field a has the value b, else none", TermsBoundaryTest::testElseNone);
        Checks.sentence("3 SET: the packet with the value b in its field a", TermsBoundaryTest::setOfTheValueItHas);
        Checks.sentence("4 UNION: what policy a or policy b gives", TermsBoundaryTest::unionWithNoneAndWithItself);
        Checks.sentence("5 THEN: what policy b gives for those that a gives", TermsBoundaryTest::thenOfNone);
        Checks.sentence("6 STAR: the packet, ..", TermsBoundaryTest::starWithoutAStep);
        Checks.sentence("6 STAR: .. what a gives for it, what a gives for those, and so on",
                TermsBoundaryTest::starOfTheLongestWay);
        Checks.sentence("6 STAR: .. and so on (a ring comes back to its start)", TermsBoundaryTest::starOfARing);
        Checks.sentence("7 NOT: the packet if a gives none, else none", TermsBoundaryTest::notOfNoneAndOfAll);
        Checks.sentence("8 CHOICE: what b gives if a gives some, ..", TermsBoundaryTest::choiceOfSome);
        Checks.sentence("8 CHOICE: .. else what c gives", TermsBoundaryTest::choiceOfNone);
        Checks.sentence("Policies named must have been made before", TermsBoundaryTest::ownNumberIsNotMadeBefore);
    }

    private static void filters() {
        Checks.sentence("A policy is a FILTER if it is of kind 0, 1, 2 or 7", TermsBoundaryTest::filtersByKind);
        Checks.sentence("or of kind 4 or 5 with two filters", TermsBoundaryTest::filtersOfTwo);
        Checks.sentence("6 with a filter", TermsBoundaryTest::filterOfAStar);
        Checks.sentence("or 8 with three filters", TermsBoundaryTest::filtersOfThree);
    }

    private static void tables() {
        Checks.sentence("A RULE has for each field a value or ANY", TermsBoundaryTest::anyForAllAndForNone);
        Checks.sentence("and a list of ACTIONS (none, or one for each packet)", TermsBoundaryTest::fewestAndMostActions);
        Checks.sentence("beginning with all packets: a region of which all packets have the same RESPONSE becomes a rule",
                TermsBoundaryTest::allPacketsInOneRegion);
        Checks.sentence("a region of which ALL packets have the same RESPONSE", TermsBoundaryTest::lastPacketCutsTheRegion);
        Checks.sentence("any other one is cut by the next field into four, by rising values", TermsBoundaryTest::cutToThePackets);
        Checks.sentence("of the fields 0, 1, 2, in this order", TermsBoundaryTest::fieldTwoIsCutLast);
        Checks.sentence("Rules stand in the order in which they are found", TermsBoundaryTest::deepRulesBetweenShallowOnes);
        Checks.sentence("KEEP for those fields in which the outcome is as the packet", TermsBoundaryTest::keepBehindASet);
        Checks.sentence("else the outcome's value", TermsBoundaryTest::valueOfTheOutcome);
    }

    private static void everyOutcomeIsThePacket(PolicyVerifier x, int policy) {
        for (int packet = 0; packet < 64; packet++) {
            Due.outcome(x, policy, packet, 1L << packet);
        }
    }

    private static void everyOutcomeIsNone(PolicyVerifier x, int policy) {
        for (int packet = 0; packet < 64; packet++) {
            Due.outcome(x, policy, packet, 0L);
        }
    }

    private static void fiveHundredTwelfthCall() {
        PolicyVerifier x = Checks.withPolicies(50);
        for (int call = 51; call < 510; call++) {
            int policy = call % 49 + 1;
            int packet = call % 64;
            Due.outcome(x, policy, packet, 1L << packet);
        }
        Checks.due("the 510th call", 16, () -> x.rules(0));
        Checks.dueThrow("the 511th call", Checks.STATE, () -> Checks.pass(x));
        Checks.due("the 512th call", 50, () -> x.count(0));
    }

    private static void everyFieldAndValue() {
        PolicyVerifier x = new PolicyVerifier();
        for (int field = 0; field < 3; field++) {
            for (int value = 0; value < 4; value++) {
                int test = Checks.test(x, field, value);
                int set = Checks.change(x, field, value);
                Checks.due("packets of field " + field + " value " + value, 16, () -> Long.bitCount(x.image(test, -1L)));
                Checks.due("all set to that", 1, () -> x.image(test, -1L) == x.image(set, -1L) ? 1 : 0);
            }
        }
        Checks.due("a test passes what it finds for the first value", 0x000000000000FFFFL, () -> x.image(0, -1L));
        Checks.due("a test passes what it finds for the last value", 0x8888888888888888L, () -> x.image(22, -1L));
    }

    private static void leastAndGreatestCode() {
        PolicyVerifier x = new PolicyVerifier();
        int least = Checks.changeAll(x, 0);
        int greatest = Checks.changeAll(x, 3);
        Due.outcome(x, least, 63, 1L);
        Due.outcome(x, greatest, 0, Long.MIN_VALUE);
        Due.outcome(x, Checks.change(x, 0, 1), 0, 1L << 16);
        Due.outcome(x, Checks.change(x, 1, 1), 0, 1L << 4);
        Due.outcome(x, Checks.change(x, 2, 1), 0, 1L << 1);
    }

    private static void everyBitOfASet() {
        PolicyVerifier x = Checks.withPolicies(2);
        for (int packet = 0; packet < 64; packet++) {
            int p = packet;
            long set = 1L << p;
            Checks.due("outcome of " + p, set, () -> x.outcome(1, p));
            Checks.due("image of " + p, set, () -> x.image(1, set));
            Checks.due("source of " + p, set, () -> x.source(1, set));
            Checks.due("hops from " + p, 0, () -> x.hops(1, p, set));
            Checks.due("hops from " + p + " to all others", -1, () -> x.hops(1, p, ~set));
        }
    }

    private static void firstAndLastNumber() {
        PolicyVerifier x = new PolicyVerifier();
        for (int number = 0; number < 50; number++) {
            Checks.due("policy made behind " + number + " others", number, () -> Checks.drop(x));
        }
    }

    private static void fiftyButNoMore() {
        PolicyVerifier x = Checks.withPolicies(49);
        Checks.due("the fiftieth", 49, () -> Checks.union(x, 48, 0));
        Checks.dueThrow("the fifty-first", Checks.STATE, () -> Checks.drop(x));
        Checks.dueThrow("the fifty-second", Checks.STATE, () -> Checks.drop(x));
        Checks.due("how many there are", 50, () -> x.count(0));
    }

    private static void dropGivesNone() {
        PolicyVerifier x = new PolicyVerifier();
        everyOutcomeIsNone(x, Checks.drop(x));
    }

    private static void passGivesThePacket() {
        PolicyVerifier x = new PolicyVerifier();
        everyOutcomeIsThePacket(x, Checks.pass(x));
    }

    private static void testElseNone() {
        PolicyVerifier x = new PolicyVerifier();
        int highest = Checks.test(x, 0, 3);
        Due.outcome(x, highest, 47, 0L);
        Due.outcome(x, highest, 48, 1L << 48);
        Due.outcome(x, highest, 63, 1L << 63);
        int lowest = Checks.test(x, 2, 0);
        Due.outcome(x, lowest, 0, 1L);
        Due.outcome(x, lowest, 1, 0L);
        Due.outcome(x, lowest, 3, 0L);
        Due.outcome(x, lowest, 4, 1L << 4);
    }

    private static void setOfTheValueItHas() {
        PolicyVerifier x = new PolicyVerifier();
        for (int field = 0; field < 3; field++) {
            int lowest = Checks.change(x, field, 0);
            int highest = Checks.change(x, field, 3);
            int distance = 3 << 2 * (2 - field);
            Due.outcome(x, lowest, 0, 1L);
            Due.outcome(x, highest, 63, 1L << 63);
            Due.outcome(x, highest, 0, 1L << distance);
            Due.outcome(x, lowest, 63, 1L << 63 - distance);
        }
    }

    private static void unionWithNoneAndWithItself() {
        PolicyVerifier x = new PolicyVerifier();
        int drop = Checks.drop(x);
        int pass = Checks.pass(x);
        int set = Checks.change(x, 0, 3);
        everyOutcomeIsThePacket(x, Checks.union(x, drop, pass));
        everyOutcomeIsThePacket(x, Checks.union(x, pass, drop));
        everyOutcomeIsThePacket(x, Checks.union(x, pass, pass));
        everyOutcomeIsNone(x, Checks.union(x, drop, drop));
        Due.outcome(x, Checks.union(x, pass, set), 15, Checks.setOf(15, 63));
        Due.outcome(x, Checks.union(x, pass, set), 63, Checks.setOf(63));
    }

    private static void thenOfNone() {
        PolicyVerifier x = new PolicyVerifier();
        int drop = Checks.drop(x);
        int set = Checks.change(x, 2, 3);
        everyOutcomeIsNone(x, Checks.then(x, drop, set));
        everyOutcomeIsNone(x, Checks.then(x, set, drop));
        int lost = Checks.then(x, set, Checks.test(x, 2, 0));
        everyOutcomeIsNone(x, lost);
        Due.outcome(x, Checks.then(x, Checks.test(x, 2, 0), set), 60, 1L << 63);
        Due.outcome(x, Checks.then(x, set, set), 60, 1L << 63);
    }

    private static void starWithoutAStep() {
        PolicyVerifier x = new PolicyVerifier();
        everyOutcomeIsThePacket(x, Checks.star(x, Checks.drop(x)));
        everyOutcomeIsThePacket(x, Checks.star(x, Checks.pass(x)));
        everyOutcomeIsThePacket(x, Checks.star(x, Checks.test(x, 1, 3)));
    }

    private static void starOfTheLongestWay() {
        PolicyVerifier x = new PolicyVerifier();
        int star = Checks.star(x, Checks.rowOfPackets(x));
        for (int packet = 0; packet < 64; packet++) {
            Due.outcome(x, star, packet, -1L << packet);
        }
    }

    private static void starOfARing() {
        PolicyVerifier x = new PolicyVerifier();
        int star = Checks.star(x, Checks.ringOfPackets(x));
        for (int packet = 0; packet < 64; packet++) {
            Due.outcome(x, star, packet, -1L);
        }
    }

    private static void notOfNoneAndOfAll() {
        PolicyVerifier x = new PolicyVerifier();
        everyOutcomeIsThePacket(x, Checks.not(x, Checks.drop(x)));
        everyOutcomeIsNone(x, Checks.not(x, Checks.pass(x)));
        int notLast = Checks.not(x, Checks.lastPacket(x));
        Due.outcome(x, notLast, 62, 1L << 62);
        Due.outcome(x, notLast, 63, 0L);
    }

    private static void choiceOfSome() {
        PolicyVerifier x = new PolicyVerifier();
        int drop = Checks.drop(x);
        int pass = Checks.pass(x);
        everyOutcomeIsThePacket(x, Checks.choice(x, pass, pass, drop));
        // b gives none, and c is not asked in its place.
        everyOutcomeIsNone(x, Checks.choice(x, pass, drop, pass));
        int last = Checks.choice(x, Checks.lastPacket(x), Checks.change(x, 0, 0), drop);
        Due.outcome(x, last, 62, 0L);
        Due.outcome(x, last, 63, 1L << 15);
    }

    private static void choiceOfNone() {
        PolicyVerifier x = new PolicyVerifier();
        int drop = Checks.drop(x);
        int pass = Checks.pass(x);
        everyOutcomeIsThePacket(x, Checks.choice(x, drop, drop, pass));
        everyOutcomeIsNone(x, Checks.choice(x, drop, pass, drop));
        int last = Checks.choice(x, Checks.lastPacket(x), pass, Checks.change(x, 0, 0));
        Due.outcome(x, last, 62, 1L << 14);
        Due.outcome(x, last, 63, 1L << 63);
    }

    private static void ownNumberIsNotMadeBefore() {
        for (int kind = Checks.UNION; kind <= Checks.CHOICE; kind++) {
            PolicyVerifier x = new PolicyVerifier();
            int k = kind;
            Checks.dueThrow("kind " + k + " of its own number 0", Checks.ARGUMENT, () -> x.policy(k, 0, 0, 0));
            Checks.pass(x);
            Checks.dueThrow("kind " + k + " of its own number 1", Checks.ARGUMENT, () -> x.policy(k, 1, 1, 1));
            Checks.due("kind " + k + " of the last one made", 1, () -> x.policy(k, 0, 0, 0));
            Checks.due("kind " + k + " of the one made just now", 2, () -> x.policy(k, 1, 1, 1));
        }
    }

    private static void filtersByKind() {
        PolicyVerifier x = new PolicyVerifier();
        Due.filter(x, "DROP", 1, Checks.drop(x));
        Due.filter(x, "PASS", 1, Checks.pass(x));
        Due.filter(x, "TEST", 1, Checks.test(x, 0, 0));
        Due.filter(x, "SET", 0, Checks.change(x, 0, 0));
        Due.filter(x, "NOT", 1, Checks.not(x, 0));
    }

    private static void filtersOfTwo() {
        PolicyVerifier x = new PolicyVerifier();
        int drop = Checks.drop(x);
        int set = Checks.change(x, 0, 0);
        for (int kind : new int[] {Checks.UNION, Checks.THEN}) {
            Due.filter(x, "kind " + kind + " with two", 1, x.policy(kind, drop, drop, set));
            Due.filter(x, "kind " + kind + " with the first alone", 0, x.policy(kind, drop, set, drop));
            Due.filter(x, "kind " + kind + " with the second alone", 0, x.policy(kind, set, drop, drop));
            Due.filter(x, "kind " + kind + " with none", 0, x.policy(kind, set, set, drop));
        }
    }

    private static void filterOfAStar() {
        PolicyVerifier x = new PolicyVerifier();
        int drop = Checks.drop(x);
        int set = Checks.change(x, 0, 0);
        Due.filter(x, "STAR with a filter", 1, x.policy(Checks.STAR, drop, set, set));
        Due.filter(x, "STAR with none", 0, x.policy(Checks.STAR, set, drop, drop));
        // It gives every packet itself alone, and is still no filter by its kinds.
        Due.filter(x, "STAR of DROP THEN SET", 0, Checks.star(x, Checks.then(x, drop, set)));
    }

    private static void filtersOfThree() {
        PolicyVerifier x = new PolicyVerifier();
        int pass = Checks.pass(x);
        int set = Checks.change(x, 0, 0);
        Due.filter(x, "CHOICE with three", 1, Checks.choice(x, pass, pass, pass));
        Due.filter(x, "CHOICE without the second", 0, Checks.choice(x, pass, set, pass));
        Due.filter(x, "CHOICE without the third", 0, Checks.choice(x, pass, pass, set));
        Due.filter(x, "CHOICE with the first alone", 0, Checks.choice(x, pass, set, set));
    }

    private static void anyForAllAndForNone() {
        PolicyVerifier x = new PolicyVerifier();
        Due.rule(x, Checks.pass(x), 0, Due.ANY, Due.ANY, Due.ANY);
        Due.rule(x, Checks.test(x, 0, 0), 0, 0, Due.ANY, Due.ANY);
        Due.rule(x, Checks.test(x, 1, 0), 0, 0, 0, Due.ANY);
        Due.rule(x, Checks.test(x, 2, 0), 0, 0, 0, 0);
        Due.rule(x, Checks.test(x, 2, 0), 63, 3, 3, 3);
    }

    private static void fewestAndMostActions() {
        PolicyVerifier x = new PolicyVerifier();
        Due.rule(x, Checks.drop(x), 0, Due.ANY, Due.ANY, Due.ANY, 0);
        Due.rule(x, Checks.pass(x), 0, Due.ANY, Due.ANY, Due.ANY, 1);
        int all = Checks.then(x, Checks.then(x, Checks.anyValue(x, 0), Checks.anyValue(x, 1)), Checks.anyValue(x, 2));
        Due.rule(x, all, 0, 0, 0, 0, 64);
        Due.rule(x, all, 63, 3, 3, 3, 64);
    }

    private static void allPacketsInOneRegion() {
        PolicyVerifier x = new PolicyVerifier();
        int drop = Checks.drop(x);
        int pass = Checks.pass(x);
        for (int policy : new int[] {drop, pass, Checks.star(x, drop), Checks.not(x, pass)}) {
            Due.rules(x, policy, 1);
            Due.rule(x, policy, 0, Due.ANY, Due.ANY, Due.ANY);
            Checks.due("match(" + policy + ", 0)", 0, () -> x.match(policy, 0));
            Checks.due("match(" + policy + ", 63)", 0, () -> x.match(policy, 63));
        }
    }

    private static void lastPacketCutsTheRegion() {
        PolicyVerifier x = new PolicyVerifier();
        int last = Checks.lastPacket(x);
        Due.rules(x, last, 3 + 3 + 4);
        Due.rule(x, last, 2, 2, Due.ANY, Due.ANY, 0);
        Due.rule(x, last, 3, 3, 0, Due.ANY, 0);
        Due.rule(x, last, 6, 3, 3, 0, 0);
        Due.rule(x, last, 9, 3, 3, 3, 1);
    }

    private static void cutToThePackets() {
        PolicyVerifier x = new PolicyVerifier();
        int set = Checks.change(x, 2, 3);
        Due.rules(x, set, 64);
        for (int packet = 0; packet < 64; packet++) {
            Due.rule(x, set, packet, packet / 16, packet / 4 % 4, packet % 4, 1);
        }
    }

    private static void fieldTwoIsCutLast() {
        PolicyVerifier x = new PolicyVerifier();
        Due.rules(x, Checks.test(x, 0, 1), 4);
        Due.rules(x, Checks.test(x, 1, 1), 16);
        Due.rules(x, Checks.test(x, 2, 1), 64);
    }

    private static void deepRulesBetweenShallowOnes() {
        PolicyVerifier x = new PolicyVerifier();
        int middle = Checks.then(x, Checks.then(x, Checks.test(x, 0, 1), Checks.test(x, 1, 2)), Checks.test(x, 2, 0));
        Due.rules(x, middle, 10);
        Due.rule(x, middle, 0, 0, Due.ANY, Due.ANY, 0);
        Due.rule(x, middle, 1, 1, 0, Due.ANY, 0);
        Due.rule(x, middle, 2, 1, 1, Due.ANY, 0);
        Due.rule(x, middle, 3, 1, 2, 0, 1);
        Due.rule(x, middle, 6, 1, 2, 3, 0);
        Due.rule(x, middle, 7, 1, 3, Due.ANY, 0);
        Due.rule(x, middle, 8, 2, Due.ANY, Due.ANY, 0);
        Due.rule(x, middle, 9, 3, Due.ANY, Due.ANY, 0);
    }

    private static void keepBehindASet() {
        PolicyVerifier x = new PolicyVerifier();
        int pass = Checks.pass(x);
        for (int field = 0; field < 3; field++) {
            // Each packet gets the value that it has: its action is KEEP, as that of a packet left alone.
            int test = Checks.test(x, field, 3);
            int idle = Checks.then(x, test, Checks.change(x, field, 3));
            int choice = Checks.choice(x, test, idle, pass);
            Due.rules(x, choice, 1);
            Due.rule(x, choice, 0, Due.ANY, Due.ANY, Due.ANY, 1);
        }
    }

    private static void valueOfTheOutcome() {
        PolicyVerifier x = new PolicyVerifier();
        int test = Checks.test(x, 2, 1);
        for (int value = 0; value < 4; value++) {
            // Field 0 gets the one value or the other by field 2: no region is whole before that is cut.
            int set = Checks.choice(x, test, Checks.change(x, 0, value), Checks.change(x, 0, 3));
            Due.rules(x, set, value == 3 ? 4 : 64);
        }
        int all = Checks.changeAll(x, 0);
        // One outcome for all packets, and 0 or KEEP in its actions by the packet's values.
        Due.rules(x, all, 64);
    }
}
