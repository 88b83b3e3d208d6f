/**
 * The sentences of the promises 1 (a new object) and 2 (policy), and those of the terms on what is
 * thrown, that name a boundary case: a test of its own for each.
 */
public final class PolicyBoundaryTest {
    private static final int[] ANYTHING = {-1, 0, 4, 50, Integer.MIN_VALUE, Integer.MAX_VALUE};
    private static final int[] NOT_MADE = {-1, 2, 3, 49, 50, Integer.MIN_VALUE, Integer.MAX_VALUE};

    public static void main(String[] args) {
        newObject();
        wrongArguments();
        otherRefusals();
        orderOfTesting();
        unused();
        ThrownChangesNothing.sentences();
        Checks.end();
    }

    private static void newObject() {
        Checks.sentence("makes an object in the state that the terms give: no policy", PolicyBoundaryTest::noPolicyYet);
        Checks.sentence("makes an object: each has a state of its own", PolicyBoundaryTest::objectsAreApart);
    }

    private static void wrongArguments() {
        Checks.sentence("kind not 0 .. 8", PolicyBoundaryTest::kindsAtTheEdges);
        Checks.sentence("a field not 0 .. 2 (TEST)", () -> fieldsAtTheEdges(Checks.TEST));
        Checks.sentence("a field not 0 .. 2 (SET)", () -> fieldsAtTheEdges(Checks.SET));
        Checks.sentence("a value not 0 .. 3 (TEST)", () -> valuesAtTheEdges(Checks.TEST));
        Checks.sentence("a value not 0 .. 3 (SET)", () -> valuesAtTheEdges(Checks.SET));
        for (int kind = Checks.UNION; kind <= Checks.CHOICE; kind++) {
            int k = kind;
            Checks.sentence("a policy named that was not made (a of kind " + k + ")", () -> firstNotMade(k));
        }
        for (int kind : new int[] {Checks.UNION, Checks.THEN, Checks.CHOICE}) {
            Checks.sentence("a policy named that was not made (b of kind " + kind + ")", () -> secondNotMade(kind));
        }
        Checks.sentence("a policy named that was not made (c of kind 8)", PolicyBoundaryTest::thirdNotMade);
    }

    private static void otherRefusals() {
        Checks.sentence("UnsupportedOperationException: a is no filter (7)", PolicyBoundaryTest::notOfNoFilter);
        Checks.sentence("UnsupportedOperationException: a is no filter (8)", PolicyBoundaryTest::choiceByNoFilter);
        Checks.sentence("a is no filter (7, 8): b and c may be none", PolicyBoundaryTest::choiceBetweenNoFilters);
        Checks.sentence("a is no filter (7, 8): in the other kinds it may be none", PolicyBoundaryTest::noFilterElsewhere);
        Checks.sentence("IllegalStateException: 50 were made", PolicyBoundaryTest::fiftyWereMade);
    }

    private static void orderOfTesting() {
        Checks.sentence("in the order of testing: IllegalArgument before UnsupportedOperation",
                PolicyBoundaryTest::notMadeBeforeNoFilter);
        Checks.sentence("in the order of testing: IllegalArgument before IllegalState",
                PolicyBoundaryTest::wrongBeforeFifty);
        Checks.sentence("in the order of testing: UnsupportedOperation before IllegalState",
                PolicyBoundaryTest::noFilterBeforeFifty);
    }

    private static void unused() {
        Checks.sentence("What a kind has no use for may be anything (a, b, c of 0, 1)", PolicyBoundaryTest::unusedByTwo);
        Checks.sentence("What a kind has no use for may be anything (c of 2, 3, 4, 5)", PolicyBoundaryTest::unusedThird);
        Checks.sentence("What a kind has no use for may be anything (b, c of 6, 7)", PolicyBoundaryTest::unusedSecondAndThird);
    }

    private static void noPolicyYet() {
        PolicyVerifier x = new PolicyVerifier();
        Checks.due("count(0)", 0, () -> x.count(0));
        Checks.due("count(1)", 0, () -> x.count(1));
        Checks.dueThrow("outcome(0, 0)", Checks.NO_SUCH, () -> x.outcome(0, 0));
        Checks.dueThrow("STAR of 0", Checks.ARGUMENT, () -> Checks.star(x, 0));
        Checks.due("the first policy", 0, () -> Checks.pass(x));
    }

    private static void objectsAreApart() {
        PolicyVerifier x = Checks.withPolicies(50);
        PolicyVerifier y = new PolicyVerifier();
        Checks.due("count(0) of the other", 0, () -> y.count(0));
        Checks.due("first policy of the other", 0, () -> Checks.drop(y));
        Checks.due("count(1) of the other", 1, () -> y.count(1));
        Checks.due("rules of the other", 1, () -> y.rules(0));
        Checks.due("rules of the one", 16, () -> x.rules(0));
        Checks.due("count(1) of the one", 2, () -> x.count(1));
    }

    private static void kindsAtTheEdges() {
        PolicyVerifier x = Checks.withPolicies(2);
        for (int kind : new int[] {-1, -2, 9, 10, Integer.MIN_VALUE, Integer.MAX_VALUE}) {
            Checks.dueThrow("kind " + kind, Checks.ARGUMENT, () -> x.policy(kind, 1, 1, 1));
        }
        Checks.due("the least kind", 2, () -> x.policy(0, 1, 1, 1));
        Checks.due("the greatest kind", 3, () -> x.policy(8, 1, 1, 1));
    }

    private static void fieldsAtTheEdges(int kind) {
        PolicyVerifier x = Checks.withPolicies(10);
        for (int field : new int[] {-1, -2, 3, 4, Integer.MIN_VALUE, Integer.MAX_VALUE}) {
            Checks.dueThrow("field " + field, Checks.ARGUMENT, () -> x.policy(kind, field, 0, 0));
        }
        Checks.due("the least field", 10, () -> x.policy(kind, 0, 0, 0));
        Checks.due("the greatest field", 11, () -> x.policy(kind, 2, 0, 0));
    }

    private static void valuesAtTheEdges(int kind) {
        PolicyVerifier x = Checks.withPolicies(10);
        for (int value : new int[] {-1, -2, 4, 5, Integer.MIN_VALUE, Integer.MAX_VALUE}) {
            for (int field = 0; field < 3; field++) {
                int f = field;
                Checks.dueThrow("field " + f + " value " + value, Checks.ARGUMENT, () -> x.policy(kind, f, value, 0));
            }
        }
        Checks.due("the least value", 10, () -> x.policy(kind, 2, 0, 0));
        Checks.due("the greatest value", 11, () -> x.policy(kind, 2, 3, 0));
    }

    private static void firstNotMade(int kind) {
        PolicyVerifier x = Checks.withPolicies(2);
        for (int wrong : NOT_MADE) {
            Checks.dueThrow("a " + wrong, Checks.ARGUMENT, () -> x.policy(kind, wrong, 1, 1));
        }
        Checks.due("a is the last one made", 2, () -> x.policy(kind, 1, 1, 1));
    }

    private static void secondNotMade(int kind) {
        PolicyVerifier x = Checks.withPolicies(2);
        for (int wrong : NOT_MADE) {
            Checks.dueThrow("b " + wrong, Checks.ARGUMENT, () -> x.policy(kind, 1, wrong, 1));
        }
        Checks.due("b is the first one made", 2, () -> x.policy(kind, 1, 0, 1));
        Checks.due("b is the last one made", 3, () -> x.policy(kind, 1, 2, 1));
    }

    private static void thirdNotMade() {
        PolicyVerifier x = Checks.withPolicies(2);
        for (int wrong : NOT_MADE) {
            Checks.dueThrow("c " + wrong, Checks.ARGUMENT, () -> Checks.choice(x, 1, 1, wrong));
        }
        Checks.due("c is the first one made", 2, () -> Checks.choice(x, 1, 1, 0));
        Checks.due("c is the last one made", 3, () -> Checks.choice(x, 1, 1, 2));
    }

    /** The first two are filters; each of the others is none, by its kinds alone. */
    private static PolicyVerifier withNoFilters() {
        PolicyVerifier x = new PolicyVerifier();
        int drop = Checks.drop(x);
        int pass = Checks.pass(x);
        int set = Checks.change(x, 0, 0);
        Checks.then(x, drop, set);
        Checks.union(x, set, drop);
        Checks.star(x, set);
        Checks.choice(x, pass, drop, set);
        return x;
    }

    private static void notOfNoFilter() {
        PolicyVerifier x = withNoFilters();
        for (int policy = 2; policy < 7; policy++) {
            int a = policy;
            Checks.dueThrow("NOT of " + a, Checks.UNSUPPORTED, () -> x.policy(Checks.NOT, a, 0, 0));
        }
        Checks.due("NOT of DROP", 7, () -> Checks.not(x, 0));
        Checks.due("NOT of PASS", 8, () -> Checks.not(x, 1));
        Checks.due("NOT of NOT", 9, () -> Checks.not(x, 8));
    }

    private static void choiceByNoFilter() {
        PolicyVerifier x = withNoFilters();
        for (int policy = 2; policy < 7; policy++) {
            int a = policy;
            Checks.dueThrow("CHOICE by " + a, Checks.UNSUPPORTED, () -> Checks.choice(x, a, 0, 1));
        }
        Checks.due("CHOICE by DROP", 7, () -> Checks.choice(x, 0, 0, 1));
        Checks.due("CHOICE by a CHOICE of filters", 8, () -> Checks.choice(x, 7, 0, 1));
    }

    private static void choiceBetweenNoFilters() {
        PolicyVerifier x = withNoFilters();
        Checks.due("b is no filter", 7, () -> Checks.choice(x, 0, 2, 1));
        Checks.due("c is no filter", 8, () -> Checks.choice(x, 0, 1, 2));
        Checks.due("neither is a filter", 9, () -> Checks.choice(x, 0, 3, 2));
    }

    private static void noFilterElsewhere() {
        PolicyVerifier x = withNoFilters();
        Checks.due("UNION of no filters", 7, () -> Checks.union(x, 2, 3));
        Checks.due("THEN of no filters", 8, () -> Checks.then(x, 2, 3));
        Checks.due("STAR of no filter", 9, () -> Checks.star(x, 2));
    }

    private static void fiftyWereMade() {
        for (int kind = Checks.DROP; kind <= Checks.CHOICE; kind++) {
            int k = kind;
            PolicyVerifier x = Checks.withPolicies(49);
            Checks.due("kind " + k + " behind 49", 49, () -> x.policy(k, 1, 1, 1));
            Checks.dueThrow("kind " + k + " behind 50", Checks.STATE, () -> x.policy(k, 1, 1, 1));
            Checks.due("count(0)", 50, () -> x.count(0));
        }
    }

    private static void notMadeBeforeNoFilter() {
        PolicyVerifier x = Checks.withPolicies(2);
        Checks.dueThrow("b was not made and a is no filter", Checks.ARGUMENT, () -> Checks.choice(x, 0, 2, 1));
        Checks.dueThrow("c was not made and a is no filter", Checks.ARGUMENT, () -> Checks.choice(x, 0, 1, 2));
        Checks.dueThrow("a is no filter, all were made", Checks.UNSUPPORTED, () -> Checks.choice(x, 0, 1, 1));
    }

    private static void wrongBeforeFifty() {
        PolicyVerifier x = Checks.withPolicies(50);
        Checks.dueThrow("kind 9 behind 50", Checks.ARGUMENT, () -> x.policy(9, 1, 1, 1));
        Checks.dueThrow("kind -1 behind 50", Checks.ARGUMENT, () -> x.policy(-1, 1, 1, 1));
        for (int kind : new int[] {Checks.TEST, Checks.SET}) {
            Checks.dueThrow("field 3 behind 50", Checks.ARGUMENT, () -> x.policy(kind, 3, 0, 0));
            Checks.dueThrow("value 4 behind 50", Checks.ARGUMENT, () -> x.policy(kind, 0, 4, 0));
        }
        for (int kind = Checks.UNION; kind <= Checks.CHOICE; kind++) {
            int k = kind;
            Checks.dueThrow("kind " + k + " of 50 behind 50", Checks.ARGUMENT, () -> x.policy(k, 50, 1, 1));
        }
        Checks.dueThrow("b is 50 behind 50", Checks.ARGUMENT, () -> Checks.choice(x, 1, 50, 1));
        Checks.dueThrow("c is 50 behind 50", Checks.ARGUMENT, () -> Checks.choice(x, 1, 1, 50));
    }

    private static void noFilterBeforeFifty() {
        PolicyVerifier x = Checks.withPolicies(50);
        Checks.dueThrow("NOT of a SET behind 50", Checks.UNSUPPORTED, () -> Checks.not(x, 0));
        Checks.dueThrow("CHOICE by a SET behind 50", Checks.UNSUPPORTED, () -> Checks.choice(x, 0, 1, 1));
    }

    private static void unusedByTwo() {
        PolicyVerifier x = new PolicyVerifier();
        for (int any : ANYTHING) {
            int drop = x.policy(Checks.DROP, any, any, any);
            int pass = x.policy(Checks.PASS, any, any, any);
            Checks.due("DROP with " + any, 0L, () -> x.image(drop, -1L));
            Checks.due("PASS with " + any, -1L, () -> x.image(pass, -1L));
        }
        Checks.due("different ones", 2, () -> x.count(1));
    }

    private static void unusedThird() {
        PolicyVerifier x = new PolicyVerifier();
        int left = Checks.test(x, 0, 1);
        int right = Checks.change(x, 1, 1);
        for (int any : ANYTHING) {
            int test = x.policy(Checks.TEST, 0, 1, any);
            int set = x.policy(Checks.SET, 1, 1, any);
            int union = x.policy(Checks.UNION, left, right, any);
            int then = x.policy(Checks.THEN, left, right, any);
            Checks.due("TEST with " + any, 1, () -> x.same(test, left));
            Checks.due("SET with " + any, 1, () -> x.same(set, right));
            Checks.due("UNION with " + any, Checks.setOf(16, 20), () -> x.outcome(union, 16));
            Checks.due("THEN with " + any, Checks.setOf(20), () -> x.outcome(then, 16));
        }
        Checks.due("different ones", 4, () -> x.count(1));
    }

    private static void unusedSecondAndThird() {
        PolicyVerifier x = new PolicyVerifier();
        int test = Checks.test(x, 0, 1);
        for (int any : ANYTHING) {
            int star = x.policy(Checks.STAR, test, any, any);
            int not = x.policy(Checks.NOT, test, any, any);
            Checks.due("STAR with " + any, -1L, () -> x.image(star, -1L));
            Checks.due("NOT with " + any, 0xFFFFFFFF0000FFFFL, () -> x.image(not, -1L));
        }
        Checks.due("different ones", 3, () -> x.count(1));
    }
}
