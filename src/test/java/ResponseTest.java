/**
 * The term RESPONSE: 'a set of actions'. For each of the 125 actions, and for each two of them, packets of
 * one region get the one, the other, both or none: the region is a rule if, and only if, all get the same.
 */
public final class ResponseTest {
    private static final int KEEP = 4;
    private static final int ACTIONS = 125;
    /** The table of a policy that tells one packet of a region of four apart, and drops all others. */
    private static final int RULES_OF_A_CUT_REGION = 3 + 3 + 4;

    public static void main(String[] args) {
        Checks.sentence("The RESPONSE of a packet: one action, or none", ResponseTest::oneActionOrNone);
        Checks.sentence("The RESPONSE of a packet: one action, or another", ResponseTest::oneActionOrAnother);
        Checks.sentence("The RESPONSE of a packet is a set: two actions, or one of them", ResponseTest::twoActionsOrOne);
        Checks.end();
    }

    private static int part(int action, int field) {
        return action / (field == 0 ? 25 : field == 1 ? 5 : 1) % 5;
    }

    /** Does an action for every packet. */
    private static int doing(PolicyVerifier x, int action) {
        int all = Checks.pass(x);
        for (int field = 0; field < 3; field++) {
            if (part(action, field) != KEEP) {
                all = Checks.then(x, all, Checks.change(x, field, part(action, field)));
            }
        }
        return all;
    }

    /** Passes the packets whose fields all have other values than the action's. */
    private static int packetsFor(PolicyVerifier x, int action) {
        int all = Checks.pass(x);
        for (int field = 0; field < 3; field++) {
            if (part(action, field) != KEEP) {
                all = Checks.then(x, all, Checks.not(x, Checks.test(x, field, part(action, field))));
            }
        }
        return all;
    }

    private static void oneActionOrNone() {
        for (int action = 0; action < ACTIONS; action++) {
            PolicyVerifier x = new PolicyVerifier();
            int policy = Checks.then(x, packetsFor(x, action), doing(x, action));
            Due.rules(x, policy, rulesFor(action, 0));
        }
    }

    /** A field with a value in the action has one region without it and three with it. */
    private static int rulesFor(int action, int field) {
        boolean whole = true;
        for (int later = field; later < 3; later++) {
            whole &= part(action, later) == KEEP;
        }
        if (whole) {
            return 1;
        }
        int inside = rulesFor(action, field + 1);
        return part(action, field) == KEEP ? 4 * inside : 1 + 3 * inside;
    }

    private static int valueBut(int one, int other) {
        int value = 0;
        while (value == one || value == other) {
            value++;
        }
        return value;
    }

    /** Packets of a region in which both actions are others than KEEP; all others are dropped. */
    private static int region(PolicyVerifier x, int one, int other) {
        int first = Checks.test(x, 0, valueBut(part(one, 0), part(other, 0)));
        return Checks.then(x, first, Checks.test(x, 1, valueBut(part(one, 1), part(other, 1))));
    }

    private static void oneActionOrAnother() {
        for (int one = 0; one < ACTIONS; one++) {
            for (int other = 0; other < ACTIONS; other++) {
                // With one value for field 2 in both, one packet of the region can get neither of them.
                if (part(one, 2) != part(other, 2) || part(one, 2) == KEEP && one != other) {
                    int value = part(other, 2) == KEEP ? valueBut(part(one, 2), KEEP) : part(other, 2);
                    PolicyVerifier x = new PolicyVerifier();
                    int either = Checks.choice(x, Checks.test(x, 2, value), doing(x, one), doing(x, other));
                    Due.rules(x, Checks.then(x, region(x, one, other), either), RULES_OF_A_CUT_REGION);
                }
            }
        }
    }

    private static void twoActionsOrOne() {
        for (int more = 0; more < ACTIONS; more++) {
            for (int all = KEEP; all < ACTIONS; all += 5) {
                if (more != all) {
                    PolicyVerifier x = new PolicyVerifier();
                    int test = Checks.test(x, 2, valueBut(part(more, 2), KEEP));
                    int both = Checks.union(x, doing(x, all), Checks.then(x, test, doing(x, more)));
                    Due.rules(x, Checks.then(x, region(x, more, all), both), RULES_OF_A_CUT_REGION);
                }
            }
        }
    }
}
