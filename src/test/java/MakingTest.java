/** Promises 2 (policy: numbers), 6 (filter) and 14 (count), with ordinary inputs. */
public final class MakingTest {
    public static void main(String[] args) {
        numbersRise();
        filters();
        counts();
        Checks.end();
    }

    private static void numbersRise() {
        PolicyVerifier x = new PolicyVerifier();
        Checks.due("drop", 0, () -> x.policy(0, 0, 0, 0));
        Checks.due("pass", 1, () -> x.policy(1, 0, 0, 0));
        Checks.due("test", 2, () -> x.policy(2, 2, 3, 0));
        Checks.due("set", 3, () -> x.policy(3, 2, 3, 0));
        Checks.due("union", 4, () -> x.policy(4, 3, 2, 0));
        Checks.due("then", 5, () -> x.policy(5, 4, 4, 0));
        Checks.due("star", 6, () -> x.policy(6, 5, 0, 0));
        Checks.due("not", 7, () -> x.policy(7, 2, 0, 0));
        Checks.due("choice", 8, () -> x.policy(8, 7, 6, 5));
        Checks.due("again the same", 9, () -> x.policy(8, 7, 6, 5));
        Checks.due("count(0)", 10, () -> x.count(0));
    }

    private static void filters() {
        PolicyVerifier x = new PolicyVerifier();
        int drop = Checks.drop(x);
        int pass = Checks.pass(x);
        int test = Checks.test(x, 1, 1);
        int set = Checks.change(x, 1, 1);
        Due.filter(x, "drop", 1, drop);
        Due.filter(x, "pass", 1, pass);
        Due.filter(x, "test", 1, test);
        Due.filter(x, "set", 0, set);
        Due.filter(x, "not", 1, Checks.not(x, test));
        for (int kind : new int[] {Checks.UNION, Checks.THEN}) {
            Due.filter(x, "kind " + kind + " of filters", 1, x.policy(kind, test, pass, set));
            Due.filter(x, "kind " + kind + " with a set first", 0, x.policy(kind, set, pass, 0));
            Due.filter(x, "kind " + kind + " with a set second", 0, x.policy(kind, test, set, 0));
        }
        Due.filter(x, "star of a filter", 1, x.policy(Checks.STAR, test, set, set));
        Due.filter(x, "star of a set", 0, Checks.star(x, set));
        Due.filter(x, "choice of filters", 1, Checks.choice(x, test, drop, pass));
        Due.filter(x, "choice with a set in b", 0, Checks.choice(x, test, set, pass));
        Due.filter(x, "choice with a set in c", 0, Checks.choice(x, test, drop, set));
        // By its kind alone: a set behind a drop gives nothing, and is still no filter.
        Due.filter(x, "drop then set", 0, Checks.then(x, drop, set));
        Due.filter(x, "test then set of the same value", 0, Checks.then(x, test, set));
    }

    private static void counts() {
        PolicyVerifier x = new PolicyVerifier();
        int test = Checks.test(x, 0, 1);
        int set = Checks.change(x, 0, 1);
        countsDue(x, 2, 2);
        Checks.then(x, test, set);
        countsDue(x, 3, 2);
        int drop = Checks.drop(x);
        countsDue(x, 4, 3);
        Checks.pass(x);
        countsDue(x, 5, 4);
        Checks.not(x, drop);
        countsDue(x, 6, 4);
        Checks.star(x, test);
        countsDue(x, 7, 4);
        Checks.not(x, test);
        countsDue(x, 8, 5);
        // It differs from drop for the last packet alone.
        Checks.lastPacket(x);
        countsDue(x, 13, 10);
    }

    private static void countsDue(PolicyVerifier x, int made, int different) {
        Checks.due("count(0)", made, () -> x.count(0));
        Checks.due("count(1) of " + made, different, () -> x.count(1));
    }
}
