/** Promises 7 (same), 8 (covers) and 9 (differ). */
public final class CompareTest {
    public static void main(String[] args) {
        ordinaryPairs();
        lastPacketAlone();
        lawsOfPolicies();
        Checks.end();
    }

    private static void compareDue(PolicyVerifier x, int first, int second, int same, int covers) {
        String pair = "(" + first + ", " + second + ")";
        Checks.due("same" + pair, same, () -> x.same(first, second));
        Checks.due("covers" + pair, covers, () -> x.covers(first, second));
    }

    private static void noneDiffers(PolicyVerifier x, int first, int second) {
        compareDue(x, first, second, 1, 1);
        compareDue(x, second, first, 1, 1);
        Checks.dueThrow("differ(" + first + ", " + second + ")", Checks.UNSUPPORTED, () -> x.differ(first, second));
    }

    private static void ordinaryPairs() {
        PolicyVerifier x = new PolicyVerifier();
        int drop = Checks.drop(x);
        int pass = Checks.pass(x);
        int test = Checks.test(x, 0, 2);
        int set = Checks.change(x, 0, 2);
        noneDiffers(x, test, test);
        compareDue(x, pass, test, 0, 1);
        compareDue(x, test, pass, 0, 0);
        compareDue(x, test, drop, 0, 1);
        compareDue(x, drop, test, 0, 0);
        compareDue(x, set, test, 0, 1);
        compareDue(x, set, pass, 0, 0);
        compareDue(x, pass, set, 0, 0);
        Due.differ(x, pass, test, 0);
        Due.differ(x, test, drop, 32);
        Due.differ(x, pass, drop, 0);
        Due.differ(x, set, pass, 0);
    }

    private static void lastPacketAlone() {
        PolicyVerifier x = new PolicyVerifier();
        int drop = Checks.drop(x);
        int last = Checks.lastPacket(x);
        compareDue(x, last, drop, 0, 1);
        compareDue(x, drop, last, 0, 0);
        Due.differ(x, drop, last, 63);
        int allButLast = Checks.not(x, last);
        int pass = Checks.pass(x);
        compareDue(x, pass, allButLast, 0, 1);
        compareDue(x, allButLast, pass, 0, 0);
        Due.differ(x, pass, allButLast, 63);
        compareDue(x, last, allButLast, 0, 0);
        Due.differ(x, last, allButLast, 0);
        noneDiffers(x, Checks.union(x, last, allButLast), pass);
    }

    private static void lawsOfPolicies() {
        PolicyVerifier x = new PolicyVerifier();
        int test = Checks.test(x, 1, 2);
        int set = Checks.change(x, 1, 2);
        int move = Checks.move(x, 2, 0, 1);
        noneDiffers(x, Checks.then(x, test, set), test);
        noneDiffers(x, Checks.then(x, set, test), set);
        noneDiffers(x, Checks.union(x, set, move), Checks.union(x, move, set));
        noneDiffers(x, Checks.then(x, set, move), Checks.then(x, move, set));
        int star = Checks.star(x, move);
        noneDiffers(x, star, Checks.star(x, star));
        noneDiffers(x, star, Checks.union(x, Checks.pass(x), Checks.then(x, move, star)));
        int split = Checks.union(x, Checks.then(x, test, move), Checks.then(x, Checks.not(x, test), set));
        noneDiffers(x, Checks.choice(x, test, move, set), split);
    }
}
