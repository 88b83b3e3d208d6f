/** The sentences of the promises 10 (rules), 11 (rule) and 12 (match) that name a boundary case: a test of its own for each. */
public final class TableBoundaryTest {
    public static void main(String[] args) {
        rules();
        rule();
        match();
        Checks.end();
    }

    private static void rules() {
        Checks.sentence("rules: How many rules the table of a policy has", TableBoundaryTest::fewestAndMostRules);
        Checks.sentence("rules: NoSuchElementException: no such policy",
                () -> Wrong.noSuchPolicy("rules", (x, policy) -> x.rules(policy)));
    }

    private static void rule() {
        Checks.sentence("rule: The value of a field (0 .. 2)", TableBoundaryTest::firstAndLastField);
        Checks.sentence("rule: in the rule at the place k (from 0)", TableBoundaryTest::firstAndLastPlace);
        Checks.sentence("rule: or -1 for ANY", TableBoundaryTest::anyIsMinusOne);
        Checks.sentence("rule: with 3: how many actions it has", TableBoundaryTest::actionsFromNoneToAll);
        Checks.sentence("rule: NoSuchElementException: no such policy",
                () -> Wrong.noSuchPolicy("rule", (x, policy) -> x.rule(policy, 0, 0)));
        Checks.sentence("rule: NoSuchElementException: no such .. rule", TableBoundaryTest::noSuchRule);
        Checks.sentence("rule: IllegalArgumentException: another what", TableBoundaryTest::anotherWhat);
        Checks.sentence("rule: in the order of testing: no such policy before another what",
                () -> Wrong.noSuchPolicyFirst("rule", (x, policy) -> x.rule(policy, 0, 4)));
        Checks.sentence("rule: in the order of testing: no such rule before another what", TableBoundaryTest::placeBeforeWhat);
    }

    private static void match() {
        Checks.sentence("match: The rule that matches a packet, by its place", TableBoundaryTest::firstAndLastOfEachRegion);
        Checks.sentence("match: the one rule for all packets", TableBoundaryTest::oneRuleMatchesAll);
        Checks.sentence("match: NoSuchElementException: no such policy",
                () -> Wrong.noSuchPolicy("match", (x, policy) -> x.match(policy, 63)));
        Checks.sentence("match: IllegalArgumentException: no such packet",
                () -> Wrong.noSuchPacket("match", (x, packet) -> x.match(1, packet)));
        Checks.sentence("match: in the order of testing: policy before packet",
                () -> Wrong.noSuchPolicyFirst("match", (x, policy) -> x.match(policy, 64)));
    }

    private static void fewestAndMostRules() {
        PolicyVerifier x = new PolicyVerifier();
        Due.rules(x, Checks.drop(x), 1);
        Due.rules(x, Checks.pass(x), 1);
        Due.rules(x, Checks.test(x, 0, 3), 4);
        Due.rules(x, Checks.lastPacket(x), 10);
        Due.rules(x, Checks.change(x, 2, 3), 64);
    }

    private static void firstAndLastField() {
        PolicyVerifier x = new PolicyVerifier();
        int set = Checks.change(x, 2, 0);
        Due.part(x, set, 0, 0, 0);
        Due.part(x, set, 27, 0, 1);
        Due.part(x, set, 27, 1, 2);
        Due.part(x, set, 27, 2, 3);
        Due.part(x, set, 63, 0, 3);
        Due.part(x, set, 63, 2, 3);
    }

    private static void firstAndLastPlace() {
        PolicyVerifier x = new PolicyVerifier();
        int last = Checks.lastPacket(x);
        Due.part(x, last, 0, 0, 0);
        Due.part(x, last, 9, 2, 3);
        int pass = Checks.pass(x);
        Due.part(x, pass, 0, 3, 1);
        int set = Checks.change(x, 2, 0);
        Due.part(x, set, 0, 2, 0);
        Due.part(x, set, 63, 1, 3);
    }

    private static void anyIsMinusOne() {
        PolicyVerifier x = new PolicyVerifier();
        int pass = Checks.pass(x);
        for (int field = 0; field < 3; field++) {
            Due.part(x, pass, 0, field, Due.ANY);
        }
        int first = Checks.test(x, 0, 0);
        Due.part(x, first, 0, 0, 0);
        Due.part(x, first, 0, 1, Due.ANY);
        Due.part(x, first, 0, 2, Due.ANY);
        int second = Checks.test(x, 1, 0);
        Due.part(x, second, 0, 1, 0);
        Due.part(x, second, 0, 2, Due.ANY);
        int third = Checks.test(x, 2, 0);
        Due.part(x, third, 0, 2, 0);
    }

    private static void actionsFromNoneToAll() {
        PolicyVerifier x = new PolicyVerifier();
        Due.part(x, Checks.drop(x), 0, 3, 0);
        Due.part(x, Checks.pass(x), 0, 3, 1);
        int four = Checks.anyValue(x, 0);
        int sixteen = Checks.then(x, four, Checks.anyValue(x, 1));
        int all = Checks.then(x, sixteen, Checks.anyValue(x, 2));
        Due.part(x, four, 3, 3, 4);
        Due.part(x, sixteen, 15, 3, 16);
        Due.part(x, all, 0, 3, 64);
        Due.part(x, all, 63, 3, 64);
    }

    private static void noSuchRule() {
        PolicyVerifier x = new PolicyVerifier();
        int pass = Checks.pass(x);
        int test = Checks.test(x, 0, 0);
        int set = Checks.change(x, 2, 0);
        for (int policy : new int[] {pass, test, set}) {
            int size = x.rules(policy);
            for (int wrong : new int[] {-1, -2, size, size + 1, 64, Integer.MIN_VALUE, Integer.MAX_VALUE}) {
                Checks.dueThrow("rule " + wrong + " of " + size, Checks.NO_SUCH, () -> x.rule(policy, wrong, 0));
                Checks.dueThrow("actions of rule " + wrong + " of " + size, Checks.NO_SUCH, () -> x.rule(policy, wrong, 3));
            }
            Due.part(x, policy, size - 1, 3, policy == test ? 0 : 1);
        }
    }

    private static void anotherWhat() {
        PolicyVerifier x = new PolicyVerifier();
        int pass = Checks.pass(x);
        int set = Checks.change(x, 2, 0);
        for (int wrong : new int[] {-1, -2, 4, 5, Integer.MIN_VALUE, Integer.MAX_VALUE}) {
            Checks.dueThrow("what " + wrong + " of the one rule", Checks.ARGUMENT, () -> x.rule(pass, 0, wrong));
            Checks.dueThrow("what " + wrong + " of the first of 64", Checks.ARGUMENT, () -> x.rule(set, 0, wrong));
            Checks.dueThrow("what " + wrong + " of the last of 64", Checks.ARGUMENT, () -> x.rule(set, 63, wrong));
        }
        Due.part(x, set, 63, 0, 3);
        Due.part(x, set, 63, 3, 1);
    }

    private static void placeBeforeWhat() {
        PolicyVerifier x = new PolicyVerifier();
        int pass = Checks.pass(x);
        for (int place : new int[] {-1, 1, 64}) {
            Checks.dueThrow("rule " + place + " what -1", Checks.NO_SUCH, () -> x.rule(pass, place, -1));
            Checks.dueThrow("rule " + place + " what 4", Checks.NO_SUCH, () -> x.rule(pass, place, 4));
        }
    }

    private static void firstAndLastOfEachRegion() {
        PolicyVerifier x = new PolicyVerifier();
        int last = Checks.lastPacket(x);
        int[] lastPackets = {15, 31, 47, 51, 55, 59, 60, 61, 62, 63};
        int first = 0;
        for (int place = 0; place < lastPackets.length; place++) {
            Due.match(x, last, first, place);
            Due.match(x, last, lastPackets[place], place);
            first = lastPackets[place] + 1;
        }
        int set = Checks.change(x, 2, 0);
        Due.match(x, set, 0, 0);
        Due.match(x, set, 63, 63);
    }

    private static void oneRuleMatchesAll() {
        PolicyVerifier x = new PolicyVerifier();
        int drop = Checks.drop(x);
        for (int packet = 0; packet < 64; packet++) {
            Due.match(x, drop, packet, 0);
        }
    }
}
