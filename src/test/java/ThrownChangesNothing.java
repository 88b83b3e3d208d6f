/**
 * 'a call that throws changes nothing': each refused call is made on one of two objects that were made
 * alike; all that they answer afterwards must still be alike.
 */
final class ThrownChangesNothing {
    private interface Refused {
        long answer(PolicyVerifier x);
    }

    private ThrownChangesNothing() {
    }

    static void sentences() {
        ofPolicy();
        ofTheOthers();
    }

    private static void ofPolicy() {
        unchanged("policy: kind", 4, Checks.ARGUMENT, x -> x.policy(9, 0, 0, 0));
        unchanged("policy: field", 4, Checks.ARGUMENT, x -> x.policy(Checks.SET, 3, 0, 0));
        unchanged("policy: value", 4, Checks.ARGUMENT, x -> x.policy(Checks.TEST, 0, 4, 0));
        unchanged("policy: the first named was not made", 4, Checks.ARGUMENT, x -> Checks.star(x, 4));
        unchanged("policy: the second named was not made", 4, Checks.ARGUMENT, x -> Checks.union(x, 0, 4));
        unchanged("policy: the third named was not made", 4, Checks.ARGUMENT, x -> Checks.choice(x, 1, 0, 4));
        unchanged("policy: NOT of no filter", 4, Checks.UNSUPPORTED, x -> Checks.not(x, 0));
        unchanged("policy: CHOICE by no filter", 4, Checks.UNSUPPORTED, x -> Checks.choice(x, 0, 1, 1));
        unchanged("policy: 50 were made", 50, Checks.STATE, x -> Checks.change(x, 0, 0));
        unchanged("policy: NOT of no filter, 50 were made", 50, Checks.UNSUPPORTED, x -> Checks.not(x, 0));
    }

    private static void ofTheOthers() {
        unchanged("outcome: policy", 4, Checks.NO_SUCH, x -> x.outcome(4, 0));
        unchanged("outcome: packet", 4, Checks.ARGUMENT, x -> x.outcome(0, 64));
        unchanged("image: policy", 4, Checks.NO_SUCH, x -> x.image(4, -1L));
        unchanged("source: policy", 4, Checks.NO_SUCH, x -> x.source(4, -1L));
        unchanged("filter: policy", 4, Checks.NO_SUCH, x -> x.filter(4));
        unchanged("same: policy", 4, Checks.NO_SUCH, x -> x.same(0, 4));
        unchanged("covers: policy", 4, Checks.NO_SUCH, x -> x.covers(0, 4));
        unchanged("differ: policy", 4, Checks.NO_SUCH, x -> x.differ(0, 4));
        unchanged("differ: there is none", 4, Checks.UNSUPPORTED, x -> x.differ(0, 0));
        unchanged("rules: policy", 4, Checks.NO_SUCH, x -> x.rules(4));
        unchanged("rule: policy", 4, Checks.NO_SUCH, x -> x.rule(4, 0, 0));
        unchanged("rule: place", 4, Checks.NO_SUCH, x -> x.rule(0, 16, 0));
        unchanged("rule: what", 4, Checks.ARGUMENT, x -> x.rule(0, 0, 4));
        unchanged("match: policy", 4, Checks.NO_SUCH, x -> x.match(4, 0));
        unchanged("match: packet", 4, Checks.ARGUMENT, x -> x.match(0, 64));
        unchanged("hops: policy", 4, Checks.NO_SUCH, x -> x.hops(4, 0, 1L));
        unchanged("hops: packet", 4, Checks.ARGUMENT, x -> x.hops(0, 64, 1L));
        unchanged("count: what", 4, Checks.ARGUMENT, x -> x.count(2));
    }

    private static void unchanged(String refusal, int policies, Class<?> thrown, Refused call) {
        Checks.sentence("a call that throws changes nothing (" + refusal + ")", () -> {
            PolicyVerifier x = Checks.withPolicies(policies);
            PolicyVerifier y = Checks.withPolicies(policies);
            Checks.dueThrow(refusal, thrown, () -> call.answer(x));
            Checks.dueThrow(refusal + " again", thrown, () -> call.answer(x));
            String want = answers(y, policies);
            String got = answers(x, policies);
            Checks.due("answers behind it " + got + ", without it " + want, 1, () -> got.equals(want) ? 1 : 0);
        });
    }

    private static String answers(PolicyVerifier x, int policies) {
        StringBuilder all = new StringBuilder();
        for (int policy : new int[] {0, 1, policies - 1, policies}) {
            add(all, () -> x.outcome(policy, 0));
            add(all, () -> x.outcome(policy, 63));
            add(all, () -> x.image(policy, -1L));
            add(all, () -> x.source(policy, 1L << 4));
            add(all, () -> x.filter(policy));
            add(all, () -> x.same(policy, 1));
            add(all, () -> x.covers(policy, 0));
            add(all, () -> x.differ(policy, 0));
            add(all, () -> x.rules(policy));
            add(all, () -> x.rule(policy, 0, 0));
            add(all, () -> x.rule(policy, 0, 3));
            add(all, () -> x.match(policy, 63));
            add(all, () -> x.hops(policy, 0, 1L << 4));
        }
        add(all, () -> x.count(0));
        add(all, () -> x.count(1));
        add(all, () -> Checks.drop(x));
        add(all, () -> x.count(0));
        add(all, () -> x.count(1));
        return all.toString();
    }

    private static void add(StringBuilder all, Checks.Call call) {
        all.append(Checks.told(call)).append(' ');
    }
}
