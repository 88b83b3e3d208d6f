/** Promises 1 (a new object), 2 (policy: numbers and what is thrown), 6 (filter) and 14 (count). */
public final class MakingTest {
    private static final int[] WRONG_NUMBERS = {-1, Integer.MIN_VALUE, Integer.MAX_VALUE};

    public static void main(String[] args) {
        newObjectHasNoPolicy();
        objectsAreApart();
        numbersRise();
        wrongKinds();
        wrongFieldsAndValues();
        policiesNotMade();
        noFilter();
        fiftyAtMost();
        orderOfTesting();
        throwingChangesNothing();
        unusedMayBeAnything();
        filters();
        filterWrongNumbers();
        counts();
        Checks.end();
    }

    private static void newObjectHasNoPolicy() {
        PolicyVerifier x = new PolicyVerifier();
        Checks.due("new count(0)", 0, () -> x.count(0));
        Checks.due("new count(1)", 0, () -> x.count(1));
        Checks.dueThrow("new outcome", Checks.NO_SUCH, () -> x.outcome(0, 0));
        Checks.dueThrow("new image", Checks.NO_SUCH, () -> x.image(0, 1L));
        Checks.dueThrow("new source", Checks.NO_SUCH, () -> x.source(0, 1L));
        Checks.dueThrow("new filter", Checks.NO_SUCH, () -> x.filter(0));
        Checks.dueThrow("new same", Checks.NO_SUCH, () -> x.same(0, 0));
        Checks.dueThrow("new covers", Checks.NO_SUCH, () -> x.covers(0, 0));
        Checks.dueThrow("new differ", Checks.NO_SUCH, () -> x.differ(0, 0));
        Checks.dueThrow("new rules", Checks.NO_SUCH, () -> x.rules(0));
        Checks.dueThrow("new rule", Checks.NO_SUCH, () -> x.rule(0, 0, 0));
        Checks.dueThrow("new match", Checks.NO_SUCH, () -> x.match(0, 0));
        Checks.dueThrow("new hops", Checks.NO_SUCH, () -> x.hops(0, 0, 1L));
        Checks.dueThrow("new star of 0", Checks.ARGUMENT, () -> x.policy(6, 0, 0, 0));
    }

    private static void objectsAreApart() {
        PolicyVerifier x = new PolicyVerifier();
        PolicyVerifier y = new PolicyVerifier();
        x.policy(Checks.PASS, 0, 0, 0);
        Checks.due("count(0) of the other object", 0, () -> y.count(0));
        Checks.due("first policy of the other object", 0, () -> y.policy(Checks.DROP, 0, 0, 0));
        Checks.due("outcome of the one", 1L << 5, () -> x.outcome(0, 5));
        Checks.due("outcome of the other", 0, () -> y.outcome(0, 5));
    }

    private static void numbersRise() {
        PolicyVerifier x = new PolicyVerifier();
        Checks.due("drop", 0, () -> x.policy(0, 0, 0, 0));
        Checks.due("pass", 1, () -> x.policy(1, 0, 0, 0));
        Checks.due("test", 2, () -> x.policy(2, 2, 3, 0));
        Checks.due("set", 3, () -> x.policy(3, 2, 3, 0));
        Checks.due("union", 4, () -> x.policy(4, 3, 2, 0));
        Checks.due("then", 5, () -> x.policy(5, 4, 4, 0));
        Checks.due("star", 6, () -> x.policy(6, 5, 0, 0));
        Checks.due("not", 7, () -> x.policy(7, 2, 0, 0));
        Checks.due("choice", 8, () -> x.policy(8, 7, 6, 5));
        Checks.due("again the same", 9, () -> x.policy(8, 7, 6, 5));
        Checks.due("count(0)", 10, () -> x.count(0));
    }

    private static void wrongKinds() {
        PolicyVerifier x = new PolicyVerifier();
        x.policy(Checks.PASS, 0, 0, 0);
        for (int kind : new int[] {-1, 9, 10, Integer.MIN_VALUE, Integer.MAX_VALUE}) {
            Checks.dueThrow("kind " + kind, Checks.ARGUMENT, () -> x.policy(kind, 0, 0, 0));
        }
    }

    private static void wrongFieldsAndValues() {
        PolicyVerifier x = new PolicyVerifier();
        for (int kind : new int[] {Checks.TEST, Checks.SET}) {
            for (int wrong : new int[] {-1, 3, 4, Integer.MIN_VALUE, Integer.MAX_VALUE}) {
                Checks.dueThrow("kind " + kind + " field " + wrong, Checks.ARGUMENT, () -> x.policy(kind, wrong, 0, 0));
            }
            for (int wrong : new int[] {-1, 4, 5, Integer.MIN_VALUE, Integer.MAX_VALUE}) {
                Checks.dueThrow("kind " + kind + " value " + wrong, Checks.ARGUMENT, () -> x.policy(kind, 0, wrong, 0));
            }
            int before = x.count(0);
            Checks.due("kind " + kind + " greatest field and value", before, () -> x.policy(kind, 2, 3, 0));
        }
    }

    private static void policiesNotMade() {
        PolicyVerifier x = new PolicyVerifier();
        x.policy(Checks.PASS, 0, 0, 0);
        x.policy(Checks.DROP, 0, 0, 0);
        for (int wrong : new int[] {-1, 2, 50, Integer.MIN_VALUE, Integer.MAX_VALUE}) {
            for (int kind = Checks.UNION; kind <= Checks.CHOICE; kind++) {
                int k = kind;
                Checks.dueThrow("kind " + k + " a " + wrong, Checks.ARGUMENT, () -> x.policy(k, wrong, 0, 0));
            }
            for (int kind : new int[] {Checks.UNION, Checks.THEN, Checks.CHOICE}) {
                Checks.dueThrow("kind " + kind + " b " + wrong, Checks.ARGUMENT, () -> x.policy(kind, 0, wrong, 0));
            }
            Checks.dueThrow("choice c " + wrong, Checks.ARGUMENT, () -> x.policy(Checks.CHOICE, 0, 0, wrong));
        }
        Checks.due("count(0) after refusals", 2, () -> x.count(0));
    }

    private static void noFilter() {
        PolicyVerifier x = new PolicyVerifier();
        int set = Checks.change(x, 0, 0);
        int pass = x.policy(Checks.PASS, 0, 0, 0);
        int starOfSet = Checks.star(x, set);
        Checks.dueThrow("not of a set", Checks.UNSUPPORTED, () -> Checks.not(x, set));
        Checks.dueThrow("not of a star of a set", Checks.UNSUPPORTED, () -> Checks.not(x, starOfSet));
        Checks.dueThrow("choice by a set", Checks.UNSUPPORTED, () -> x.policy(Checks.CHOICE, set, pass, pass));
        Checks.due("choice between sets", 3, () -> x.policy(Checks.CHOICE, pass, set, set));
        Checks.dueThrow("not of a choice of sets", Checks.UNSUPPORTED, () -> Checks.not(x, 3));
        Checks.due("not of pass", 4, () -> Checks.not(x, pass));
    }

    private static PolicyVerifier full() {
        PolicyVerifier x = new PolicyVerifier();
        Checks.change(x, 1, 1);
        for (int made = 1; made < 50; made++) {
            x.policy(Checks.PASS, 0, 0, 0);
        }
        return x;
    }

    private static void fiftyAtMost() {
        PolicyVerifier x = full();
        Checks.due("count(0) of fifty", 50, () -> x.count(0));
        for (int kind = Checks.DROP; kind <= Checks.STAR; kind++) {
            int k = kind;
            Checks.dueThrow("kind " + k + " after fifty", Checks.STATE, () -> x.policy(k, 1, 1, 1));
        }
        Checks.dueThrow("not after fifty", Checks.STATE, () -> x.policy(Checks.NOT, 49, 0, 0));
        Checks.dueThrow("choice after fifty", Checks.STATE, () -> x.policy(Checks.CHOICE, 49, 49, 49));
        Checks.due("count(0) after refusals", 50, () -> x.count(0));
        Checks.due("the last of fifty", 1L << 63, () -> x.outcome(49, 63));
    }

    private static void orderOfTesting() {
        PolicyVerifier x = full();
        Checks.dueThrow("wrong kind before fifty made", Checks.ARGUMENT, () -> x.policy(9, 0, 0, 0));
        Checks.dueThrow("wrong field before fifty made", Checks.ARGUMENT, () -> x.policy(Checks.SET, 3, 0, 0));
        Checks.dueThrow("wrong value before fifty made", Checks.ARGUMENT, () -> x.policy(Checks.TEST, 0, 4, 0));
        Checks.dueThrow("not made before fifty made", Checks.ARGUMENT, () -> Checks.union(x, 0, 50));
        Checks.dueThrow("no filter before fifty made", Checks.UNSUPPORTED, () -> Checks.not(x, 0));
        Checks.dueThrow("choice: no filter before fifty made", Checks.UNSUPPORTED, () -> x.policy(Checks.CHOICE, 0, 1, 1));
        Checks.dueThrow("choice: b not made before no filter", Checks.ARGUMENT, () -> x.policy(Checks.CHOICE, 0, 50, 1));
        Checks.dueThrow("choice: c not made before no filter", Checks.ARGUMENT, () -> x.policy(Checks.CHOICE, 0, 1, -1));
    }

    private static void throwingChangesNothing() {
        PolicyVerifier x = new PolicyVerifier();
        int set = Checks.change(x, 2, 1);
        Checks.told(() -> x.policy(9, 0, 0, 0));
        Checks.told(() -> x.policy(Checks.TEST, 3, 0, 0));
        Checks.told(() -> Checks.union(x, set, 1));
        Checks.told(() -> Checks.not(x, set));
        Checks.told(() -> x.outcome(set, 64));
        Checks.told(() -> x.rule(set, 0, 4));
        Checks.due("count(0) after throws", 1, () -> x.count(0));
        Checks.due("count(1) after throws", 1, () -> x.count(1));
        Checks.due("the next number after throws", 1, () -> x.policy(Checks.PASS, 0, 0, 0));
        Checks.due("the set after throws", Checks.setOf(1), () -> x.outcome(set, 0));
    }

    private static void unusedMayBeAnything() {
        PolicyVerifier x = new PolicyVerifier();
        int number = 0;
        for (int wrong : WRONG_NUMBERS) {
            int next = number;
            Checks.due("drop", next, () -> x.policy(Checks.DROP, wrong, wrong, wrong));
            Checks.due("pass", next + 1, () -> x.policy(Checks.PASS, wrong, wrong, wrong));
            Checks.due("test", next + 2, () -> x.policy(Checks.TEST, 0, 0, wrong));
            Checks.due("set", next + 3, () -> x.policy(Checks.SET, 0, 0, wrong));
            Checks.due("union", next + 4, () -> x.policy(Checks.UNION, 0, 0, wrong));
            Checks.due("then", next + 5, () -> x.policy(Checks.THEN, 0, 0, wrong));
            Checks.due("star", next + 6, () -> x.policy(Checks.STAR, 0, wrong, wrong));
            Checks.due("not", next + 7, () -> x.policy(Checks.NOT, 0, wrong, wrong));
            number += 8;
        }
    }

    private static void filters() {
        PolicyVerifier x = new PolicyVerifier();
        int drop = x.policy(Checks.DROP, 0, 0, 0);
        int pass = x.policy(Checks.PASS, 0, 0, 0);
        int test = Checks.test(x, 1, 1);
        int set = Checks.change(x, 1, 1);
        filterDue(x, "drop", 1, drop);
        filterDue(x, "pass", 1, pass);
        filterDue(x, "test", 1, test);
        filterDue(x, "set", 0, set);
        filterDue(x, "not", 1, Checks.not(x, test));
        for (int kind : new int[] {Checks.UNION, Checks.THEN}) {
            filterDue(x, "kind " + kind + " of filters", 1, x.policy(kind, test, pass, set));
            filterDue(x, "kind " + kind + " with a set first", 0, x.policy(kind, set, pass, 0));
            filterDue(x, "kind " + kind + " with a set second", 0, x.policy(kind, test, set, 0));
        }
        filterDue(x, "star of a filter", 1, x.policy(Checks.STAR, test, set, set));
        filterDue(x, "star of a set", 0, Checks.star(x, set));
        filterDue(x, "choice of filters", 1, x.policy(Checks.CHOICE, test, drop, pass));
        filterDue(x, "choice with a set in b", 0, x.policy(Checks.CHOICE, test, set, pass));
        filterDue(x, "choice with a set in c", 0, x.policy(Checks.CHOICE, test, drop, set));
        // By its kind alone: a set behind a drop gives nothing, and is still no filter.
        filterDue(x, "drop then set", 0, Checks.then(x, drop, set));
        filterDue(x, "test then set of the same value", 0, Checks.then(x, test, set));
    }

    private static void filterDue(PolicyVerifier x, String name, int want, int policy) {
        Checks.due("filter of " + name, want, () -> x.filter(policy));
    }

    private static void filterWrongNumbers() {
        PolicyVerifier x = new PolicyVerifier();
        x.policy(Checks.PASS, 0, 0, 0);
        Checks.dueThrow("filter(1)", Checks.NO_SUCH, () -> x.filter(1));
        for (int wrong : WRONG_NUMBERS) {
            Checks.dueThrow("filter(" + wrong + ")", Checks.NO_SUCH, () -> x.filter(wrong));
        }
    }

    private static void counts() {
        PolicyVerifier x = new PolicyVerifier();
        int test = Checks.test(x, 0, 1);
        int set = Checks.change(x, 0, 1);
        countsDue(x, 2, 2);
        Checks.then(x, test, set);
        countsDue(x, 3, 2);
        int drop = x.policy(Checks.DROP, 0, 0, 0);
        countsDue(x, 4, 3);
        x.policy(Checks.PASS, 0, 0, 0);
        countsDue(x, 5, 4);
        Checks.not(x, drop);
        countsDue(x, 6, 4);
        Checks.star(x, test);
        countsDue(x, 7, 4);
        Checks.not(x, test);
        countsDue(x, 8, 5);
        // It differs from drop for the last packet alone.
        Checks.then(x, Checks.then(x, Checks.test(x, 0, 3), Checks.test(x, 1, 3)), Checks.test(x, 2, 3));
        countsDue(x, 13, 10);
        for (int wrong : new int[] {-1, 2, 3, Integer.MIN_VALUE, Integer.MAX_VALUE}) {
            Checks.dueThrow("count(" + wrong + ")", Checks.ARGUMENT, () -> x.count(wrong));
        }
    }

    private static void countsDue(PolicyVerifier x, int made, int different) {
        Checks.due("count(0)", made, () -> x.count(0));
        Checks.due("count(1) of " + made, different, () -> x.count(1));
    }
}
