/** The questions of the face, each with the answer that is due. */
final class Due {
    /** What rule() answers for a field that has no value. */
    static final int ANY = -1;

    private Due() {
    }

    static void outcome(PolicyVerifier x, int policy, int packet, long want) {
        Checks.due("outcome(" + policy + ", " + packet + ")", want, () -> x.outcome(policy, packet));
    }

    static void image(PolicyVerifier x, int policy, long set, long want) {
        Checks.due("image(" + policy + ", " + set + ")", want, () -> x.image(policy, set));
    }

    static void source(PolicyVerifier x, int policy, long set, long want) {
        Checks.due("source(" + policy + ", " + set + ")", want, () -> x.source(policy, set));
    }

    static void filter(PolicyVerifier x, String name, int want, int policy) {
        Checks.due("filter(" + policy + "), " + name, want, () -> x.filter(policy));
    }

    /** The answer is the same for the two policies in either order. */
    static void differ(PolicyVerifier x, int first, int second, int want) {
        Checks.due("differ(" + first + ", " + second + ")", want, () -> x.differ(first, second));
        Checks.due("differ(" + second + ", " + first + ")", want, () -> x.differ(second, first));
    }

    static void rules(PolicyVerifier x, int policy, int want) {
        Checks.due("rules(" + policy + ")", want, () -> x.rules(policy));
    }

    /** The values of the rule's fields and then the number of its actions, or as many of these as are given. */
    static void rule(PolicyVerifier x, int policy, int k, int... want) {
        for (int what = 0; what < want.length; what++) {
            part(x, policy, k, what, want[what]);
        }
    }

    static void part(PolicyVerifier x, int policy, int k, int what, int want) {
        Checks.due("rule(" + policy + ", " + k + ", " + what + ")", want, () -> x.rule(policy, k, what));
    }

    static void match(PolicyVerifier x, int policy, int packet, int want) {
        Checks.due("match(" + policy + ", " + packet + ")", want, () -> x.match(policy, packet));
    }

    static void hops(PolicyVerifier x, int policy, int packet, long set, int want) {
        Checks.due("hops(" + policy + ", " + packet + ", " + set + ")", want, () -> x.hops(policy, packet, set));
    }
}
