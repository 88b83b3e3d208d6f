/** Promises 7 (same), 8 (covers) and 9 (differ). */
public final class CompareTest {
    private static final int[] WRONG_POLICIES = {-1, 1, 49, 50, Integer.MIN_VALUE, Integer.MAX_VALUE};

    public static void main(String[] args) {
        ordinaryPairs();
        lastPacketAlone();
        lawsOfPolicies();
        wrongPolicies();
        Checks.end();
    }

    private static void compareDue(PolicyVerifier x, int first, int second, int same, int covers) {
        String pair = "(" + first + ", " + second + ")";
        Checks.due("same" + pair, same, () -> x.same(first, second));
        Checks.due("covers" + pair, covers, () -> x.covers(first, second));
    }

    private static void differDue(PolicyVerifier x, int first, int second, int packet) {
        Checks.due("differ(" + first + ", " + second + ")", packet, () -> x.differ(first, second));
        Checks.due("differ(" + second + ", " + first + ")", packet, () -> x.differ(second, first));
    }

    private static void noneDiffers(PolicyVerifier x, int first, int second) {
        compareDue(x, first, second, 1, 1);
        compareDue(x, second, first, 1, 1);
        Checks.dueThrow("differ(" + first + ", " + second + ")", Checks.UNSUPPORTED, () -> x.differ(first, second));
    }

    private static void ordinaryPairs() {
        PolicyVerifier x = new PolicyVerifier();
        int drop = x.policy(Checks.DROP, 0, 0, 0);
        int pass = x.policy(Checks.PASS, 0, 0, 0);
        int test = Checks.test(x, 0, 2);
        int set = Checks.change(x, 0, 2);
        noneDiffers(x, test, test);
        compareDue(x, pass, test, 0, 1);
        compareDue(x, test, pass, 0, 0);
        compareDue(x, test, drop, 0, 1);
        compareDue(x, drop, test, 0, 0);
        compareDue(x, set, test, 0, 1);
        compareDue(x, set, pass, 0, 0);
        compareDue(x, pass, set, 0, 0);
        differDue(x, pass, test, 0);
        differDue(x, test, drop, 32);
        differDue(x, pass, drop, 0);
        differDue(x, set, pass, 0);
    }

    private static void lastPacketAlone() {
        PolicyVerifier x = new PolicyVerifier();
        int drop = x.policy(Checks.DROP, 0, 0, 0);
        int last = Checks.then(x, Checks.then(x, Checks.test(x, 0, 3), Checks.test(x, 1, 3)), Checks.test(x, 2, 3));
        compareDue(x, last, drop, 0, 1);
        compareDue(x, drop, last, 0, 0);
        differDue(x, drop, last, 63);
        int allButLast = Checks.not(x, last);
        int pass = x.policy(Checks.PASS, 0, 0, 0);
        compareDue(x, pass, allButLast, 0, 1);
        compareDue(x, allButLast, pass, 0, 0);
        differDue(x, pass, allButLast, 63);
        compareDue(x, last, allButLast, 0, 0);
        differDue(x, last, allButLast, 0);
        noneDiffers(x, Checks.union(x, last, allButLast), pass);
    }

    private static void lawsOfPolicies() {
        PolicyVerifier x = new PolicyVerifier();
        int test = Checks.test(x, 1, 2);
        int set = Checks.change(x, 1, 2);
        int move = Checks.move(x, 2, 0, 1);
        noneDiffers(x, Checks.then(x, test, set), test);
        noneDiffers(x, Checks.then(x, set, test), set);
        noneDiffers(x, Checks.union(x, set, move), Checks.union(x, move, set));
        noneDiffers(x, Checks.then(x, set, move), Checks.then(x, move, set));
        int star = Checks.star(x, move);
        noneDiffers(x, star, Checks.star(x, star));
        noneDiffers(x, star, Checks.union(x, x.policy(Checks.PASS, 0, 0, 0), Checks.then(x, move, star)));
        int split = Checks.union(x, Checks.then(x, test, move), Checks.then(x, Checks.not(x, test), set));
        noneDiffers(x, x.policy(Checks.CHOICE, test, move, set), split);
    }

    private static void wrongPolicies() {
        PolicyVerifier x = new PolicyVerifier();
        x.policy(Checks.PASS, 0, 0, 0);
        for (int wrong : WRONG_POLICIES) {
            Checks.dueThrow("same(" + wrong + ", 0)", Checks.NO_SUCH, () -> x.same(wrong, 0));
            Checks.dueThrow("same(0, " + wrong + ")", Checks.NO_SUCH, () -> x.same(0, wrong));
            Checks.dueThrow("same of one wrong number", Checks.NO_SUCH, () -> x.same(wrong, wrong));
            Checks.dueThrow("covers(" + wrong + ", 0)", Checks.NO_SUCH, () -> x.covers(wrong, 0));
            Checks.dueThrow("covers(0, " + wrong + ")", Checks.NO_SUCH, () -> x.covers(0, wrong));
            Checks.dueThrow("differ(" + wrong + ", 0)", Checks.NO_SUCH, () -> x.differ(wrong, 0));
            Checks.dueThrow("differ(0, " + wrong + ")", Checks.NO_SUCH, () -> x.differ(0, wrong));
            Checks.dueThrow("differ of one wrong number", Checks.NO_SUCH, () -> x.differ(wrong, wrong));
        }
    }
}
