/** Promises 10 (rules), 11 (rule) and 12 (match). */
public final class TableTest {
    private static final int ANY = -1;
    private static final int[] WRONG_POLICIES = {-1, 1, 49, 50, Integer.MIN_VALUE, Integer.MAX_VALUE};

    public static void main(String[] args) {
        oneRuleForAll();
        fieldsInOrder();
        setOfAFieldKeepsItsValue();
        deepestTable();
        manyActions();
        sameOutcomesButOtherResponses();
        oneActionTellsApart();
        lastPacketCutsTheRegion();
        tablesAreNotMixedUp();
        wrongPolicies();
        wrongRulesAndWhats();
        wrongPackets();
        Checks.end();
    }

    private static void rulesDue(PolicyVerifier x, int policy, int want) {
        Checks.due("rules(" + policy + ")", want, () -> x.rules(policy));
    }

    private static void ruleDue(PolicyVerifier x, int policy, int k, int... want) {
        for (int what = 0; what < want.length; what++) {
            int asked = what;
            Checks.due("rule(" + policy + ", " + k + ", " + asked + ")", want[asked], () -> x.rule(policy, k, asked));
        }
    }

    private static void matchDue(PolicyVerifier x, int policy, int packet, int want) {
        Checks.due("match(" + policy + ", " + packet + ")", want, () -> x.match(policy, packet));
    }

    private static void oneRuleForAll() {
        PolicyVerifier x = new PolicyVerifier();
        int drop = x.policy(Checks.DROP, 0, 0, 0);
        int pass = x.policy(Checks.PASS, 0, 0, 0);
        rulesDue(x, drop, 1);
        ruleDue(x, drop, 0, ANY, ANY, ANY, 0);
        rulesDue(x, pass, 1);
        ruleDue(x, pass, 0, ANY, ANY, ANY, 1);
        for (int packet = 0; packet < 64; packet++) {
            matchDue(x, drop, packet, 0);
            matchDue(x, pass, packet, 0);
        }
    }

    private static void fieldsInOrder() {
        PolicyVerifier x = new PolicyVerifier();
        int first = Checks.test(x, 0, 2);
        rulesDue(x, first, 4);
        ruleDue(x, first, 0, 0, ANY, ANY, 0);
        ruleDue(x, first, 2, 2, ANY, ANY, 1);
        ruleDue(x, first, 3, 3, ANY, ANY, 0);
        matchDue(x, first, 47, 2);
        matchDue(x, first, 48, 3);
        int both = Checks.then(x, first, Checks.test(x, 2, 1));
        rulesDue(x, both, 1 + 1 + 16 + 1);
        ruleDue(x, both, 1, 1, ANY, ANY, 0);
        ruleDue(x, both, 2, 2, 0, 0, 0);
        ruleDue(x, both, 3, 2, 0, 1, 1);
        ruleDue(x, both, 17, 2, 3, 3, 0);
        ruleDue(x, both, 18, 3, ANY, ANY, 0);
        matchDue(x, both, Checks.packet(2, 1, 3), 9);
        matchDue(x, both, 63, 18);
    }

    private static void setOfAFieldKeepsItsValue() {
        PolicyVerifier x = new PolicyVerifier();
        int set = Checks.change(x, 1, 2);
        rulesDue(x, set, 16);
        ruleDue(x, set, 0, 0, 0, ANY, 1);
        ruleDue(x, set, 15, 3, 3, ANY, 1);
        matchDue(x, set, Checks.packet(1, 2, 3), 6);
        int tested = Checks.then(x, Checks.test(x, 0, 1), set);
        rulesDue(x, tested, 7);
        ruleDue(x, tested, 0, 0, ANY, ANY, 0);
        ruleDue(x, tested, 1, 1, 0, ANY, 1);
        ruleDue(x, tested, 6, 3, ANY, ANY, 0);
        // The set does nothing behind the test, so its action is KEEP for every field.
        int idle = Checks.then(x, Checks.test(x, 1, 2), set);
        int either = Checks.union(x, idle, Checks.not(x, Checks.test(x, 1, 2)));
        rulesDue(x, either, 1);
        ruleDue(x, either, 0, ANY, ANY, ANY, 1);
    }

    private static void deepestTable() {
        PolicyVerifier x = new PolicyVerifier();
        int set = Checks.change(x, 2, 0);
        rulesDue(x, set, 64);
        for (int packet = 0; packet < 64; packet++) {
            ruleDue(x, set, packet, packet / 16, packet / 4 % 4, packet % 4, 1);
            matchDue(x, set, packet, packet);
        }
    }

    private static int anyValue(PolicyVerifier x, int field) {
        int low = Checks.union(x, Checks.change(x, field, 0), Checks.change(x, field, 1));
        int high = Checks.union(x, Checks.change(x, field, 2), Checks.change(x, field, 3));
        return Checks.union(x, low, high);
    }

    private static void manyActions() {
        PolicyVerifier x = new PolicyVerifier();
        int all = Checks.then(x, Checks.then(x, anyValue(x, 0), anyValue(x, 1)), anyValue(x, 2));
        Checks.due("outcome of all", -1L, () -> x.outcome(all, 0));
        // The value that a packet has is kept, so each packet has actions of its own.
        rulesDue(x, all, 64);
        ruleDue(x, all, 0, 0, 0, 0, 64);
        ruleDue(x, all, 63, 3, 3, 3, 64);
        int first = anyValue(x, 0);
        rulesDue(x, first, 4);
        ruleDue(x, first, 1, 1, ANY, ANY, 4);
        int some = x.policy(Checks.CHOICE, Checks.test(x, 0, 0), first, x.policy(Checks.DROP, 0, 0, 0));
        rulesDue(x, some, 4);
        ruleDue(x, some, 0, 0, ANY, ANY, 4);
        ruleDue(x, some, 1, 1, ANY, ANY, 0);
    }

    /** Every packet goes to packet 0, and the actions still differ: 0 or KEEP for each field. */
    private static void sameOutcomesButOtherResponses() {
        PolicyVerifier x = new PolicyVerifier();
        int zero = Checks.then(x, Checks.change(x, 0, 0), Checks.then(x, Checks.change(x, 1, 0), Checks.change(x, 2, 0)));
        rulesDue(x, zero, 64);
        int outside = Checks.not(x, Checks.test(x, 2, 0));
        int inside = Checks.then(x, outside, Checks.change(x, 2, 0));
        rulesDue(x, inside, 64);
        ruleDue(x, inside, 4, 0, 1, 0, 0);
        ruleDue(x, inside, 5, 0, 1, 1, 1);
    }

    /** Packets that differ in field 2 alone share a rule if, and only if, their actions are the same. */
    private static void oneActionTellsApart() {
        for (int field = 0; field < 2; field++) {
            int rulesOfOneSet = field == 0 ? 4 : 16;
            for (int value = 0; value < 4; value++) {
                for (int other = 0; other < 4; other++) {
                    PolicyVerifier x = new PolicyVerifier();
                    int test = Checks.test(x, 2, 3);
                    int set = Checks.change(x, field, value);
                    int setOther = Checks.change(x, field, other);
                    int want = value == other ? rulesOfOneSet : 64;
                    rulesDue(x, x.policy(Checks.CHOICE, test, set, setOther), want);
                    rulesDue(x, x.policy(Checks.CHOICE, test, set, Checks.union(x, set, setOther)), want);
                }
            }
        }
    }

    /** The last packet of a region counts as much as the others. */
    private static void lastPacketCutsTheRegion() {
        PolicyVerifier x = new PolicyVerifier();
        int last = Checks.then(x, Checks.then(x, Checks.test(x, 0, 3), Checks.test(x, 1, 3)), Checks.test(x, 2, 3));
        rulesDue(x, last, 3 + 3 + 4);
        ruleDue(x, last, 2, 2, ANY, ANY, 0);
        ruleDue(x, last, 5, 3, 2, ANY, 0);
        ruleDue(x, last, 8, 3, 3, 2, 0);
        ruleDue(x, last, 9, 3, 3, 3, 1);
        matchDue(x, last, 47, 2);
        matchDue(x, last, 48, 3);
        matchDue(x, last, 59, 5);
        matchDue(x, last, 60, 6);
        matchDue(x, last, 63, 9);
    }

    private static void tablesAreNotMixedUp() {
        PolicyVerifier x = new PolicyVerifier();
        int pass = x.policy(Checks.PASS, 0, 0, 0);
        int set = Checks.change(x, 2, 0);
        int test = Checks.test(x, 0, 3);
        for (int round = 0; round < 3; round++) {
            rulesDue(x, set, 64);
            rulesDue(x, pass, 1);
            rulesDue(x, test, 4);
            matchDue(x, set, 63, 63);
            matchDue(x, pass, 63, 0);
            matchDue(x, test, 63, 3);
            ruleDue(x, test, 3, 3, ANY, ANY, 1);
        }
        Checks.due("count(0) after tables", 3, () -> x.count(0));
    }

    private static void wrongPolicies() {
        PolicyVerifier x = new PolicyVerifier();
        x.policy(Checks.PASS, 0, 0, 0);
        for (int wrong : WRONG_POLICIES) {
            Checks.dueThrow("rules(" + wrong + ")", Checks.NO_SUCH, () -> x.rules(wrong));
            Checks.dueThrow("rule(" + wrong + ", 0, 0)", Checks.NO_SUCH, () -> x.rule(wrong, 0, 0));
            Checks.dueThrow("rule: policy before what", Checks.NO_SUCH, () -> x.rule(wrong, 0, 4));
            Checks.dueThrow("match(" + wrong + ", 0)", Checks.NO_SUCH, () -> x.match(wrong, 0));
            Checks.dueThrow("match: policy before packet", Checks.NO_SUCH, () -> x.match(wrong, 64));
        }
    }

    private static void wrongRulesAndWhats() {
        PolicyVerifier x = new PolicyVerifier();
        int test = Checks.test(x, 0, 0);
        int set = Checks.change(x, 2, 2);
        for (int wrong : new int[] {-1, 4, 5, 64, Integer.MIN_VALUE, Integer.MAX_VALUE}) {
            Checks.dueThrow("rule at " + wrong, Checks.NO_SUCH, () -> x.rule(test, wrong, 0));
            Checks.dueThrow("actions at " + wrong, Checks.NO_SUCH, () -> x.rule(test, wrong, 3));
            Checks.dueThrow("rule before what", Checks.NO_SUCH, () -> x.rule(test, wrong, -1));
        }
        Checks.dueThrow("rule at 64 of 64", Checks.NO_SUCH, () -> x.rule(set, 64, 0));
        for (int wrong : new int[] {-1, 4, 5, Integer.MIN_VALUE, Integer.MAX_VALUE}) {
            Checks.dueThrow("what " + wrong, Checks.ARGUMENT, () -> x.rule(test, 0, wrong));
            Checks.dueThrow("what " + wrong + " of the last", Checks.ARGUMENT, () -> x.rule(test, 3, wrong));
        }
    }

    private static void wrongPackets() {
        PolicyVerifier x = new PolicyVerifier();
        x.policy(Checks.PASS, 0, 0, 0);
        for (int wrong : new int[] {-1, 64, 65, Integer.MIN_VALUE, Integer.MAX_VALUE}) {
            Checks.dueThrow("match of packet " + wrong, Checks.ARGUMENT, () -> x.match(0, wrong));
        }
    }
}
