/** Promises 10 (rules), 11 (rule) and 12 (match). */
public final class TableTest {
    public static void main(String[] args) {
        fieldsInOrder();
        setOfAFieldKeepsItsValue();
        manyActions();
        sameOutcomesButOtherResponses();
        oneActionTellsApart();
        tablesAreNotMixedUp();
        Checks.end();
    }

    private static void fieldsInOrder() {
        PolicyVerifier x = new PolicyVerifier();
        int first = Checks.test(x, 0, 2);
        Due.rules(x, first, 4);
        Due.rule(x, first, 0, 0, Due.ANY, Due.ANY, 0);
        Due.rule(x, first, 2, 2, Due.ANY, Due.ANY, 1);
        Due.rule(x, first, 3, 3, Due.ANY, Due.ANY, 0);
        Due.match(x, first, 47, 2);
        Due.match(x, first, 48, 3);
        int both = Checks.then(x, first, Checks.test(x, 2, 1));
        Due.rules(x, both, 1 + 1 + 16 + 1);
        Due.rule(x, both, 1, 1, Due.ANY, Due.ANY, 0);
        Due.rule(x, both, 2, 2, 0, 0, 0);
        Due.rule(x, both, 3, 2, 0, 1, 1);
        Due.rule(x, both, 17, 2, 3, 3, 0);
        Due.rule(x, both, 18, 3, Due.ANY, Due.ANY, 0);
        Due.match(x, both, Checks.packet(2, 1, 3), 9);
        Due.match(x, both, 63, 18);
    }

    private static void setOfAFieldKeepsItsValue() {
        PolicyVerifier x = new PolicyVerifier();
        int set = Checks.change(x, 1, 2);
        Due.rules(x, set, 16);
        Due.rule(x, set, 0, 0, 0, Due.ANY, 1);
        Due.rule(x, set, 15, 3, 3, Due.ANY, 1);
        Due.match(x, set, Checks.packet(1, 2, 3), 6);
        int tested = Checks.then(x, Checks.test(x, 0, 1), set);
        Due.rules(x, tested, 7);
        Due.rule(x, tested, 0, 0, Due.ANY, Due.ANY, 0);
        Due.rule(x, tested, 1, 1, 0, Due.ANY, 1);
        Due.rule(x, tested, 6, 3, Due.ANY, Due.ANY, 0);
        // The set does nothing behind the test, so its action is KEEP for every field.
        int idle = Checks.then(x, Checks.test(x, 1, 2), set);
        int either = Checks.union(x, idle, Checks.not(x, Checks.test(x, 1, 2)));
        Due.rules(x, either, 1);
        Due.rule(x, either, 0, Due.ANY, Due.ANY, Due.ANY, 1);
    }

    private static void manyActions() {
        PolicyVerifier x = new PolicyVerifier();
        int all = Checks.then(x, Checks.then(x, Checks.anyValue(x, 0), Checks.anyValue(x, 1)), Checks.anyValue(x, 2));
        Checks.due("outcome of all", -1L, () -> x.outcome(all, 0));
        // The value that a packet has is kept, so each packet has actions of its own.
        Due.rules(x, all, 64);
        Due.rule(x, all, 0, 0, 0, 0, 64);
        Due.rule(x, all, 63, 3, 3, 3, 64);
        int first = Checks.anyValue(x, 0);
        Due.rules(x, first, 4);
        Due.rule(x, first, 1, 1, Due.ANY, Due.ANY, 4);
        int some = Checks.choice(x, Checks.test(x, 0, 0), first, Checks.drop(x));
        Due.rules(x, some, 4);
        Due.rule(x, some, 0, 0, Due.ANY, Due.ANY, 4);
        Due.rule(x, some, 1, 1, Due.ANY, Due.ANY, 0);
    }

    /** Every packet goes to packet 0, and the actions still differ: 0 or KEEP for each field. */
    private static void sameOutcomesButOtherResponses() {
        PolicyVerifier x = new PolicyVerifier();
        int zero = Checks.changeAll(x, 0);
        Due.rules(x, zero, 64);
        int outside = Checks.not(x, Checks.test(x, 2, 0));
        int inside = Checks.then(x, outside, Checks.change(x, 2, 0));
        Due.rules(x, inside, 64);
        Due.rule(x, inside, 4, 0, 1, 0, 0);
        Due.rule(x, inside, 5, 0, 1, 1, 1);
    }

    /** Packets that differ in field 2 alone share a rule if, and only if, their actions are the same. */
    private static void oneActionTellsApart() {
        for (int field = 0; field < 2; field++) {
            int rulesOfOneSet = field == 0 ? 4 : 16;
            for (int value = 0; value < 4; value++) {
                for (int other = 0; other < 4; other++) {
                    PolicyVerifier x = new PolicyVerifier();
                    int test = Checks.test(x, 2, 3);
                    int set = Checks.change(x, field, value);
                    int setOther = Checks.change(x, field, other);
                    int want = value == other ? rulesOfOneSet : 64;
                    Due.rules(x, Checks.choice(x, test, set, setOther), want);
                    Due.rules(x, Checks.choice(x, test, set, Checks.union(x, set, setOther)), want);
                }
            }
        }
    }

    private static void tablesAreNotMixedUp() {
        PolicyVerifier x = new PolicyVerifier();
        int pass = Checks.pass(x);
        int set = Checks.change(x, 2, 0);
        int test = Checks.test(x, 0, 3);
        for (int round = 0; round < 3; round++) {
            Due.rules(x, set, 64);
            Due.rules(x, pass, 1);
            Due.rules(x, test, 4);
            Due.match(x, set, 63, 63);
            Due.match(x, pass, 63, 0);
            Due.match(x, test, 63, 3);
            Due.rule(x, test, 3, 3, Due.ANY, Due.ANY, 1);
        }
        Checks.due("count(0) after tables", 3, () -> x.count(0));
    }
}
