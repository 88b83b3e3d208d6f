/** The sentences of the promises 3 to 9, 13 and 14 that name a boundary case: a test of its own for each. */
public final class AskingBoundaryTest {
    public static void main(String[] args) {
        outcome();
        imageAndSource();
        filter();
        sameAndCovers();
        differ();
        hops();
        count();
        Checks.end();
    }

    private static void outcome() {
        Checks.sentence("outcome: The outcome of a packet (0 .. 63)", AskingBoundaryTest::outcomesOfTheEdges);
        Checks.sentence("outcome: NoSuchElementException: no such policy",
                () -> Wrong.noSuchPolicy("outcome", (x, policy) -> x.outcome(policy, 63)));
        Checks.sentence("outcome: IllegalArgumentException: no such packet",
                () -> Wrong.noSuchPacket("outcome", (x, packet) -> x.outcome(1, packet)));
        Checks.sentence("outcome: in the order of testing: policy before packet",
                () -> Wrong.noSuchPolicyFirst("outcome", (x, policy) -> x.outcome(policy, 64)));
    }

    private static void imageAndSource() {
        Checks.sentence("image: What a policy gives for a set of packets in all", AskingBoundaryTest::imagesOfTheEdges);
        Checks.sentence("image: NoSuchElementException: no such policy",
                () -> Wrong.noSuchPolicy("image", (x, policy) -> x.image(policy, 0L)));
        Checks.sentence("source: The packets of which the outcome has one in the set", AskingBoundaryTest::sourcesOfTheEdges);
        Checks.sentence("source: NoSuchElementException: no such policy",
                () -> Wrong.noSuchPolicy("source", (x, policy) -> x.source(policy, 0L)));
    }

    private static void filter() {
        Checks.sentence("filter: 1 if the policy is a filter, else 0", AskingBoundaryTest::filterOrNot);
        Checks.sentence("filter: NoSuchElementException: no such policy",
                () -> Wrong.noSuchPolicy("filter", (x, policy) -> x.filter(policy)));
    }

    private static void sameAndCovers() {
        Checks.sentence("same: 1 if two policies have the same outcomes for all packets", AskingBoundaryTest::sameForAll);
        Checks.sentence("same: else 0", AskingBoundaryTest::notSameForOne);
        Checks.sentence("same: NoSuchElementException: no such policy (first)",
                () -> Wrong.noSuchPolicy("same", (x, policy) -> x.same(policy, 0)));
        Checks.sentence("same: NoSuchElementException: no such policy (second)",
                () -> Wrong.noSuchPolicy("same", (x, policy) -> x.same(0, policy)));
        Checks.sentence("same: NoSuchElementException: no such policy (one wrong number twice)",
                () -> Wrong.noSuchPolicy("same", (x, policy) -> x.same(policy, policy)));
        Checks.sentence("covers: 1 if every outcome of the first has all packets that that of the second has",
                AskingBoundaryTest::coversAll);
        Checks.sentence("covers: else 0", AskingBoundaryTest::coversAllButOne);
        Checks.sentence("covers: NoSuchElementException: no such policy (first)",
                () -> Wrong.noSuchPolicy("covers", (x, policy) -> x.covers(policy, 0)));
        Checks.sentence("covers: NoSuchElementException: no such policy (second)",
                () -> Wrong.noSuchPolicy("covers", (x, policy) -> x.covers(0, policy)));
        Checks.sentence("covers: NoSuchElementException: no such policy (one wrong number twice)",
                () -> Wrong.noSuchPolicy("covers", (x, policy) -> x.covers(policy, policy)));
    }

    private static void differ() {
        Checks.sentence("differ: The least packet whose outcomes by the two differ", AskingBoundaryTest::leastOfAllAndLastAlone);
        Checks.sentence("differ: NoSuchElementException: no such policy (first)",
                () -> Wrong.noSuchPolicy("differ", (x, policy) -> x.differ(policy, 0)));
        Checks.sentence("differ: NoSuchElementException: no such policy (second)",
                () -> Wrong.noSuchPolicy("differ", (x, policy) -> x.differ(0, policy)));
        Checks.sentence("differ: UnsupportedOperationException: there is none", AskingBoundaryTest::noneDiffers);
        Checks.sentence("differ: in the order of testing: no such policy before there is none",
                () -> Wrong.noSuchPolicyFirst("differ", (x, policy) -> x.differ(policy, policy)));
    }

    private static void hops() {
        Checks.sentence("hops: 0 if it is in the set", AskingBoundaryTest::noHopNeeded);
        Checks.sentence("hops: else the least n such that doing the policy n times gives one", AskingBoundaryTest::leastHops);
        Checks.sentence("hops: the least n, once around the ring of all packets", AskingBoundaryTest::hopsAroundTheRing);
        Checks.sentence("hops: -1 if none does", AskingBoundaryTest::noWay);
        Checks.sentence("hops: NoSuchElementException: no such policy",
                () -> Wrong.noSuchPolicy("hops", (x, policy) -> x.hops(policy, 0, -1L)));
        Checks.sentence("hops: IllegalArgumentException: no such packet",
                () -> Wrong.noSuchPacket("hops", (x, packet) -> x.hops(1, packet, -1L)));
        Checks.sentence("hops: IllegalArgumentException: no such packet (the empty set)",
                () -> Wrong.noSuchPacket("hops", (x, packet) -> x.hops(1, packet, 0L)));
        Checks.sentence("hops: in the order of testing: policy before packet",
                () -> Wrong.noSuchPolicyFirst("hops", (x, policy) -> x.hops(policy, 64, -1L)));
    }

    private static void count() {
        Checks.sentence("count: The number of policies (0)", AskingBoundaryTest::countOfNoneAndOfFifty);
        Checks.sentence("count: of different ones among them, by their outcomes (1)", AskingBoundaryTest::differentByOutcomes);
        Checks.sentence("count: of different ones (all alike, and all different)", AskingBoundaryTest::fewestAndMostDifferent);
        Checks.sentence("count: IllegalArgumentException: another number", AskingBoundaryTest::anotherNumber);
    }

    private static void outcomesOfTheEdges() {
        PolicyVerifier x = Checks.withPolicies(50);
        Checks.due("outcome(0, 0)", 1L << 4, () -> x.outcome(0, 0));
        Checks.due("outcome(0, 63)", 1L << 55, () -> x.outcome(0, 63));
        Checks.due("outcome(49, 0)", 1L, () -> x.outcome(49, 0));
        Checks.due("outcome(49, 31)", 1L << 31, () -> x.outcome(49, 31));
        Checks.due("outcome(49, 32)", 1L << 32, () -> x.outcome(49, 32));
        Checks.due("outcome(49, 63)", Long.MIN_VALUE, () -> x.outcome(49, 63));
    }

    private static void imagesOfTheEdges() {
        PolicyVerifier x = new PolicyVerifier();
        int drop = Checks.drop(x);
        int pass = Checks.pass(x);
        int set = Checks.change(x, 0, 3);
        for (int policy : new int[] {drop, pass, set}) {
            Due.image(x, policy, 0L, 0L);
        }
        Due.image(x, drop, -1L, 0L);
        Due.image(x, pass, -1L, -1L);
        Due.image(x, pass, Long.MIN_VALUE, Long.MIN_VALUE);
        Due.image(x, pass, Long.MAX_VALUE, Long.MAX_VALUE);
        Due.image(x, set, -1L, 0xFFFF000000000000L);
        Due.image(x, set, Checks.setOf(0, 63), Checks.setOf(48, 63));
        Due.image(x, set, Checks.setOf(15, 31, 47, 63), Checks.setOf(63));
    }

    private static void sourcesOfTheEdges() {
        PolicyVerifier x = new PolicyVerifier();
        int drop = Checks.drop(x);
        int pass = Checks.pass(x);
        int set = Checks.change(x, 0, 3);
        int both = Checks.union(x, pass, set);
        for (int policy : new int[] {drop, pass, set, both}) {
            Due.source(x, policy, 0L, 0L);
        }
        Due.source(x, drop, -1L, 0L);
        Due.source(x, pass, -1L, -1L);
        Due.source(x, set, -1L, -1L);
        Due.source(x, pass, Long.MIN_VALUE, Long.MIN_VALUE);
        Due.source(x, set, Long.MIN_VALUE, Checks.setOf(15, 31, 47, 63));
        Due.source(x, set, Long.MAX_VALUE, ~Checks.setOf(15, 31, 47, 63));
        Due.source(x, set, 0x0000FFFFFFFFFFFFL, 0L);
        // One of the two outcomes is enough.
        Due.source(x, both, Checks.setOf(0), Checks.setOf(0));
        Due.source(x, both, Checks.setOf(48), Checks.setOf(0, 16, 32, 48));
    }

    private static void filterOrNot() {
        PolicyVerifier x = Checks.withPolicies(50);
        Checks.due("filter of a SET, the first of fifty", 0, () -> x.filter(0));
        Checks.due("filter of a PASS, the second of fifty", 1, () -> x.filter(1));
        Checks.due("filter of a PASS, the last of fifty", 1, () -> x.filter(49));
    }

    private static void sameForAll() {
        PolicyVerifier x = Checks.withPolicies(50);
        Checks.due("one policy twice", 1, () -> x.same(0, 0));
        Checks.due("the second and the last", 1, () -> x.same(1, 49));
        Checks.due("the last twice", 1, () -> x.same(49, 49));
        PolicyVerifier y = new PolicyVerifier();
        int drop = Checks.drop(y);
        // Other kinds, the same outcomes.
        int none = Checks.then(y, Checks.change(y, 2, 1), Checks.test(y, 2, 2));
        Checks.due("two that give none", 1, () -> y.same(drop, none));
    }

    private static void notSameForOne() {
        PolicyVerifier x = new PolicyVerifier();
        int drop = Checks.drop(x);
        int last = Checks.lastPacket(x);
        int first = Checks.firstPacket(x);
        Checks.due("they differ for packet 63 alone", 0, () -> x.same(drop, last));
        Checks.due("the other way round", 0, () -> x.same(last, drop));
        Checks.due("they differ for packet 0 alone", 0, () -> x.same(drop, first));
        int pass = Checks.pass(x);
        int more = Checks.union(x, pass, Checks.then(x, last, Checks.change(x, 0, 0)));
        Checks.due("one outcome has one packet more", 0, () -> x.same(pass, more));
    }

    private static void coversAll() {
        PolicyVerifier x = new PolicyVerifier();
        int drop = Checks.drop(x);
        int pass = Checks.pass(x);
        int last = Checks.lastPacket(x);
        int more = Checks.union(x, pass, Checks.change(x, 0, 0));
        Checks.due("a policy covers itself", 1, () -> x.covers(pass, pass));
        Checks.due("none covers none", 1, () -> x.covers(drop, drop));
        Checks.due("all cover none", 1, () -> x.covers(pass, drop));
        Checks.due("all cover the last packet", 1, () -> x.covers(pass, last));
        Checks.due("more cover all", 1, () -> x.covers(more, pass));
    }

    private static void coversAllButOne() {
        PolicyVerifier x = new PolicyVerifier();
        int drop = Checks.drop(x);
        int pass = Checks.pass(x);
        int last = Checks.lastPacket(x);
        int first = Checks.firstPacket(x);
        int notLast = Checks.not(x, last);
        int more = Checks.union(x, pass, Checks.then(x, last, Checks.change(x, 0, 0)));
        Checks.due("none does not cover the first packet", 0, () -> x.covers(drop, first));
        Checks.due("none does not cover the last packet", 0, () -> x.covers(drop, last));
        Checks.due("all but the last do not cover all", 0, () -> x.covers(notLast, pass));
        Checks.due("all do not cover one packet more", 0, () -> x.covers(pass, more));
        Checks.due("neither covers the other", 0, () -> x.covers(last, notLast));
        Checks.due("nor the one the other", 0, () -> x.covers(notLast, last));
    }

    private static void leastOfAllAndLastAlone() {
        PolicyVerifier x = new PolicyVerifier();
        int drop = Checks.drop(x);
        int pass = Checks.pass(x);
        int last = Checks.lastPacket(x);
        Due.differ(x, drop, pass, 0);
        Due.differ(x, drop, last, 63);
        Due.differ(x, pass, last, 0);
        Due.differ(x, pass, Checks.not(x, last), 63);
        Due.differ(x, drop, Checks.test(x, 0, 3), 48);
        Due.differ(x, pass, Checks.change(x, 0, 0), 16);
    }

    private static void noneDiffers() {
        PolicyVerifier x = Checks.withPolicies(50);
        Checks.dueThrow("one policy twice", Checks.UNSUPPORTED, () -> x.differ(0, 0));
        Checks.dueThrow("the second and the last", Checks.UNSUPPORTED, () -> x.differ(1, 49));
        Checks.dueThrow("the last and the second", Checks.UNSUPPORTED, () -> x.differ(49, 1));
        Checks.due("the first and the last", 0, () -> x.differ(0, 49));
    }

    private static void noHopNeeded() {
        PolicyVerifier x = new PolicyVerifier();
        int drop = Checks.drop(x);
        int set = Checks.change(x, 0, 3);
        for (int policy : new int[] {drop, set}) {
            Due.hops(x, policy, 0, 1L, 0);
            Due.hops(x, policy, 63, Long.MIN_VALUE, 0);
            Due.hops(x, policy, 0, -1L, 0);
            Due.hops(x, policy, 63, -1L, 0);
        }
    }

    private static void leastHops() {
        PolicyVerifier x = new PolicyVerifier();
        int row = Checks.rowOfPackets(x);
        Due.hops(x, row, 0, Checks.setOf(1), 1);
        Due.hops(x, row, 0, Checks.setOf(63), 63);
        Due.hops(x, row, 0, Checks.setOf(40, 62, 63), 40);
        Due.hops(x, row, 62, Checks.setOf(0, 63), 1);
        Due.hops(x, Checks.union(x, row, Checks.change(x, 0, 3)), 0, Checks.setOf(63), 16);
        Due.hops(x, Checks.star(x, row), 0, Checks.setOf(63), 1);
    }

    private static void hopsAroundTheRing() {
        PolicyVerifier x = new PolicyVerifier();
        int ring = Checks.ringOfPackets(x);
        Due.hops(x, ring, 0, Checks.setOf(63), 63);
        Due.hops(x, ring, 63, Checks.setOf(0), 1);
        Due.hops(x, ring, 63, Checks.setOf(62), 63);
        Due.hops(x, ring, 33, Checks.setOf(32), 63);
        Due.hops(x, ring, 33, Checks.setOf(32, 33), 0);
    }

    private static void noWay() {
        PolicyVerifier x = new PolicyVerifier();
        int row = Checks.rowOfPackets(x);
        int drop = Checks.drop(x);
        int pass = Checks.pass(x);
        int all = Checks.star(x, row);
        for (int policy : new int[] {row, drop, pass, all}) {
            Due.hops(x, policy, 0, 0L, -1);
            Due.hops(x, policy, 63, 0L, -1);
            Due.hops(x, policy, 63, Long.MAX_VALUE, -1);
        }
        Due.hops(x, row, 1, 1L, -1);
        Due.hops(x, drop, 0, ~1L, -1);
        Due.hops(x, pass, 0, ~1L, -1);
    }

    private static void countOfNoneAndOfFifty() {
        for (int policies : new int[] {0, 1, 49, 50}) {
            PolicyVerifier x = Checks.withPolicies(policies);
            Checks.due("count(0) of " + policies, policies, () -> x.count(0));
        }
    }

    private static void countDifferent(PolicyVerifier x, String name, int want) {
        Checks.due("count(1): " + name, want, () -> x.count(1));
    }

    private static void differentByOutcomes() {
        PolicyVerifier x = new PolicyVerifier();
        countDifferent(x, "of none", 0);
        int drop = Checks.drop(x);
        countDifferent(x, "DROP", 1);
        int pass = Checks.not(x, drop);
        countDifferent(x, "NOT of DROP", 2);
        Checks.pass(x);
        countDifferent(x, "PASS, of another kind than NOT of DROP", 2);
        int set = Checks.change(x, 0, 0);
        countDifferent(x, "SET", 3);
        Checks.then(x, drop, set);
        countDifferent(x, "DROP THEN SET, no filter with the outcomes of one", 3);
        Checks.then(x, pass, set);
        countDifferent(x, "PASS THEN SET", 3);
    }

    private static void fewestAndMostDifferent() {
        PolicyVerifier alike = new PolicyVerifier();
        for (int made = 0; made < 50; made++) {
            Checks.drop(alike);
        }
        countDifferent(alike, "fifty alike", 1);
        PolicyVerifier x = new PolicyVerifier();
        int last = Checks.lastPacket(x);
        countDifferent(x, "five", 5);
        Checks.not(x, last);
        countDifferent(x, "all but the last packet", 6);
        Checks.pass(x);
        countDifferent(x, "it differs from the one before for packet 63 alone", 7);
        PolicyVerifier y = new PolicyVerifier();
        int[] firsts = tests(y, 0);
        int[] seconds = tests(y, 1);
        int[] thirds = tests(y, 2);
        joinAll(y, firsts, seconds);
        joinAll(y, firsts, thirds);
        joinAll(y, seconds, thirds);
        countDifferent(y, "fifty different ones", 50);
    }

    private static int[] tests(PolicyVerifier x, int field) {
        int[] tests = new int[4];
        for (int value = 0; value < 4; value++) {
            tests[value] = Checks.test(x, field, value);
        }
        return tests;
    }

    /** The joins of the tests of two fields, as many as fifty policies leave room for. */
    private static void joinAll(PolicyVerifier x, int[] lefts, int[] rights) {
        for (int left : lefts) {
            for (int right : rights) {
                if (x.count(0) < 50) {
                    Checks.then(x, left, right);
                }
            }
        }
    }

    private static void anotherNumber() {
        for (int policies : new int[] {0, 3, 50}) {
            PolicyVerifier x = Checks.withPolicies(policies);
            for (int wrong : new int[] {-1, 2, 3, 50, Integer.MIN_VALUE, Integer.MAX_VALUE}) {
                Checks.dueThrow("count(" + wrong + ")", Checks.ARGUMENT, () -> x.count(wrong));
            }
        }
    }
}
