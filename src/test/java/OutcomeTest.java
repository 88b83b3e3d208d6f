/** Promises 2 (what each kind gives), 3 (outcome), 4 (image), 5 (source) and 13 (hops). */
public final class OutcomeTest {
    private static final int[] WRONG_PACKETS = {-1, 64, 65, 128, Integer.MIN_VALUE, Integer.MAX_VALUE};
    private static final int[] WRONG_POLICIES = {-1, 1, 49, 50, Integer.MIN_VALUE, Integer.MAX_VALUE};

    public static void main(String[] args) {
        dropAndPass();
        testsOfEachField();
        setsOfEachField();
        unions();
        thens();
        stars();
        nots();
        choices();
        images();
        sources();
        hopsAlongARing();
        hopsAtTheEdges();
        longestWay();
        wrongPoliciesAndPackets();
        Checks.end();
    }

    private static void outcomeDue(PolicyVerifier x, int policy, int packet, long want) {
        Checks.due("outcome(" + policy + ", " + packet + ")", want, () -> x.outcome(policy, packet));
    }

    private static void dropAndPass() {
        PolicyVerifier x = new PolicyVerifier();
        int drop = x.policy(Checks.DROP, 0, 0, 0);
        int pass = x.policy(Checks.PASS, 0, 0, 0);
        for (int packet = 0; packet < 64; packet++) {
            outcomeDue(x, drop, packet, 0L);
            outcomeDue(x, pass, packet, 1L << packet);
        }
    }

    private static void testsOfEachField() {
        PolicyVerifier x = new PolicyVerifier();
        int first = Checks.test(x, 0, 3);
        int second = Checks.test(x, 1, 2);
        int third = Checks.test(x, 2, 0);
        for (int packet = 0; packet < 64; packet++) {
            outcomeDue(x, first, packet, packet / 16 == 3 ? 1L << packet : 0L);
            outcomeDue(x, second, packet, packet / 4 % 4 == 2 ? 1L << packet : 0L);
            outcomeDue(x, third, packet, packet % 4 == 0 ? 1L << packet : 0L);
        }
    }

    private static void setsOfEachField() {
        PolicyVerifier x = new PolicyVerifier();
        int first = Checks.change(x, 0, 3);
        int second = Checks.change(x, 1, 2);
        int third = Checks.change(x, 2, 0);
        for (int packet = 0; packet < 64; packet++) {
            outcomeDue(x, first, packet, 1L << 48 + packet % 16);
            outcomeDue(x, second, packet, 1L << packet / 16 * 16 + 8 + packet % 4);
            outcomeDue(x, third, packet, 1L << packet / 4 * 4);
        }
    }

    private static void unions() {
        PolicyVerifier x = new PolicyVerifier();
        int both = Checks.union(x, Checks.change(x, 0, 3), Checks.test(x, 1, 1));
        outcomeDue(x, both, Checks.packet(0, 1, 2), Checks.setOf(Checks.packet(3, 1, 2), Checks.packet(0, 1, 2)));
        outcomeDue(x, both, Checks.packet(0, 2, 2), Checks.setOf(Checks.packet(3, 2, 2)));
        outcomeDue(x, both, Checks.packet(3, 1, 0), Checks.setOf(Checks.packet(3, 1, 0)));
    }

    private static void thens() {
        PolicyVerifier x = new PolicyVerifier();
        int test = Checks.test(x, 2, 1);
        int set = Checks.change(x, 2, 1);
        int testThenSet = Checks.then(x, test, set);
        int setThenTest = Checks.then(x, set, test);
        outcomeDue(x, testThenSet, 0, 0L);
        outcomeDue(x, setThenTest, 0, Checks.setOf(1));
        int many = Checks.union(x, Checks.change(x, 0, 1), Checks.change(x, 0, 2));
        int manyMore = Checks.then(x, many, Checks.union(x, set, Checks.change(x, 2, 2)));
        outcomeDue(x, manyMore, 0, Checks.setOf(17, 18, 33, 34));
        outcomeDue(x, manyMore, 63, Checks.setOf(29, 30, 45, 46));
    }

    private static void stars() {
        PolicyVerifier x = new PolicyVerifier();
        int drop = x.policy(Checks.DROP, 0, 0, 0);
        int starOfDrop = Checks.star(x, drop);
        outcomeDue(x, starOfDrop, 0, 1L);
        outcomeDue(x, starOfDrop, 63, 1L << 63);
        int down = Checks.union(x, Checks.move(x, 2, 3, 2), Checks.union(x, Checks.move(x, 2, 2, 1), Checks.move(x, 2, 1, 0)));
        int starOfDown = Checks.star(x, down);
        outcomeDue(x, starOfDown, 0, Checks.setOf(0));
        outcomeDue(x, starOfDown, 1, Checks.setOf(0, 1));
        outcomeDue(x, starOfDown, 63, Checks.setOf(60, 61, 62, 63));
        int up = Checks.union(x, Checks.move(x, 1, 0, 1), Checks.union(x, Checks.move(x, 1, 1, 2), Checks.move(x, 1, 2, 3)));
        int starOfUp = Checks.star(x, up);
        outcomeDue(x, starOfUp, 1, Checks.setOf(1, 5, 9, 13));
        outcomeDue(x, starOfUp, 62, Checks.setOf(62));
    }

    private static void nots() {
        PolicyVerifier x = new PolicyVerifier();
        int not = Checks.not(x, Checks.test(x, 1, 3));
        int notNot = Checks.not(x, not);
        for (int packet = 0; packet < 64; packet++) {
            boolean has = packet / 4 % 4 == 3;
            outcomeDue(x, not, packet, has ? 0L : 1L << packet);
            outcomeDue(x, notNot, packet, has ? 1L << packet : 0L);
        }
    }

    private static void choices() {
        PolicyVerifier x = new PolicyVerifier();
        int test = Checks.test(x, 0, 2);
        int choice = x.policy(Checks.CHOICE, test, Checks.change(x, 1, 0), Checks.change(x, 2, 3));
        outcomeDue(x, choice, Checks.packet(2, 3, 1), Checks.setOf(Checks.packet(2, 0, 1)));
        outcomeDue(x, choice, Checks.packet(1, 3, 1), Checks.setOf(Checks.packet(1, 3, 3)));
        int drop = x.policy(Checks.DROP, 0, 0, 0);
        int dropped = x.policy(Checks.CHOICE, test, drop, test);
        // b gives none where a gives some: c is not asked then.
        outcomeDue(x, dropped, Checks.packet(2, 0, 0), 0L);
        outcomeDue(x, dropped, Checks.packet(0, 0, 0), 0L);
    }

    private static void imageDue(PolicyVerifier x, int policy, long set, long want) {
        Checks.due("image(" + policy + ", " + set + ")", want, () -> x.image(policy, set));
    }

    private static void images() {
        PolicyVerifier x = new PolicyVerifier();
        int pass = x.policy(Checks.PASS, 0, 0, 0);
        int both = Checks.union(x, Checks.change(x, 0, 0), Checks.test(x, 0, 3));
        imageDue(x, pass, 0L, 0L);
        imageDue(x, pass, -1L, -1L);
        imageDue(x, pass, Long.MIN_VALUE, Long.MIN_VALUE);
        imageDue(x, both, 0L, 0L);
        imageDue(x, both, Checks.setOf(0, 63), Checks.setOf(0, 15, 63));
        imageDue(x, both, -1L, 0xFFFF00000000FFFFL);
        imageDue(x, both, Checks.setOf(1, 17, 33), Checks.setOf(1));
    }

    private static void sourceDue(PolicyVerifier x, int policy, long set, long want) {
        Checks.due("source(" + policy + ", " + set + ")", want, () -> x.source(policy, set));
    }

    private static void sources() {
        PolicyVerifier x = new PolicyVerifier();
        int pass = x.policy(Checks.PASS, 0, 0, 0);
        int both = Checks.union(x, Checks.change(x, 0, 0), Checks.test(x, 0, 3));
        sourceDue(x, pass, 0L, 0L);
        sourceDue(x, pass, -1L, -1L);
        sourceDue(x, pass, Long.MIN_VALUE, Long.MIN_VALUE);
        sourceDue(x, both, 0L, 0L);
        sourceDue(x, both, Checks.setOf(1), Checks.setOf(1, 17, 33, 49));
        sourceDue(x, both, Checks.setOf(63, 20), Checks.setOf(63));
        sourceDue(x, both, Checks.setOf(20, 40), 0L);
        sourceDue(x, both, -1L, -1L);
    }

    private static int ring(PolicyVerifier x) {
        int low = Checks.union(x, Checks.move(x, 0, 0, 1), Checks.move(x, 0, 1, 2));
        int high = Checks.union(x, Checks.move(x, 0, 2, 3), Checks.move(x, 0, 3, 0));
        return Checks.union(x, low, high);
    }

    private static void hopsDue(PolicyVerifier x, int policy, int packet, long set, int want) {
        Checks.due("hops(" + policy + ", " + packet + ", " + set + ")", want, () -> x.hops(policy, packet, set));
    }

    private static void hopsAlongARing() {
        PolicyVerifier x = new PolicyVerifier();
        int ring = ring(x);
        for (int from = 0; from < 4; from++) {
            for (int to = 0; to < 4; to++) {
                hopsDue(x, ring, 16 * from + 7, Checks.setOf(16 * to + 7), Math.floorMod(to - from, 4));
            }
        }
        hopsDue(x, ring, 0, Checks.setOf(1, 17, 33, 49), -1);
        hopsDue(x, ring, 0, Checks.setOf(32, 48), 2);
        hopsDue(x, Checks.star(x, ring), 0, Checks.setOf(48), 1);
        hopsDue(x, Checks.then(x, ring, ring), 0, Checks.setOf(48), -1);
        hopsDue(x, Checks.then(x, ring, ring), 0, Checks.setOf(32), 1);
    }

    private static void hopsAtTheEdges() {
        PolicyVerifier x = new PolicyVerifier();
        int drop = x.policy(Checks.DROP, 0, 0, 0);
        hopsDue(x, drop, 5, Checks.setOf(5), 0);
        hopsDue(x, drop, 5, -1L, 0);
        hopsDue(x, drop, 5, ~Checks.setOf(5), -1);
        hopsDue(x, drop, 5, 0L, -1);
        hopsDue(x, drop, 63, Long.MIN_VALUE, 0);
        int set = Checks.change(x, 2, 3);
        hopsDue(x, set, 60, Long.MIN_VALUE, 1);
        hopsDue(x, set, 59, Long.MIN_VALUE, -1);
    }

    /** Counts through all 64 packets one by one, so that the way from 0 to 63 has 63 hops. */
    private static void longestWay() {
        PolicyVerifier x = new PolicyVerifier();
        int low = oneUp(x, 2);
        int middle = Checks.then(x, Checks.test(x, 2, 3), Checks.then(x, oneUp(x, 1), Checks.change(x, 2, 0)));
        int full = Checks.then(x, Checks.test(x, 2, 3), Checks.test(x, 1, 3));
        int emptied = Checks.then(x, Checks.change(x, 1, 0), Checks.change(x, 2, 0));
        int high = Checks.then(x, full, Checks.then(x, oneUp(x, 0), emptied));
        int next = Checks.union(x, low, Checks.union(x, middle, high));
        for (int packet = 0; packet < 63; packet++) {
            outcomeDue(x, next, packet, 1L << packet + 1);
        }
        outcomeDue(x, next, 63, 0L);
        hopsDue(x, next, 0, Long.MIN_VALUE, 63);
        hopsDue(x, next, 1, Long.MIN_VALUE, 62);
        hopsDue(x, next, 1, 1L, -1);
        int star = Checks.star(x, next);
        outcomeDue(x, star, 0, -1L);
        outcomeDue(x, star, 40, -1L << 40);
    }

    private static int oneUp(PolicyVerifier x, int field) {
        int first = Checks.move(x, field, 0, 1);
        int second = Checks.move(x, field, 1, 2);
        return Checks.union(x, Checks.union(x, first, second), Checks.move(x, field, 2, 3));
    }

    private static void wrongPoliciesAndPackets() {
        PolicyVerifier x = new PolicyVerifier();
        x.policy(Checks.PASS, 0, 0, 0);
        for (int wrong : WRONG_POLICIES) {
            Checks.dueThrow("outcome of policy " + wrong, Checks.NO_SUCH, () -> x.outcome(wrong, 0));
            Checks.dueThrow("outcome: policy before packet", Checks.NO_SUCH, () -> x.outcome(wrong, 64));
            Checks.dueThrow("image of policy " + wrong, Checks.NO_SUCH, () -> x.image(wrong, 0L));
            Checks.dueThrow("source of policy " + wrong, Checks.NO_SUCH, () -> x.source(wrong, 0L));
            Checks.dueThrow("hops of policy " + wrong, Checks.NO_SUCH, () -> x.hops(wrong, 0, 1L));
            Checks.dueThrow("hops: policy before packet", Checks.NO_SUCH, () -> x.hops(wrong, -1, 1L));
        }
        for (int wrong : WRONG_PACKETS) {
            Checks.dueThrow("outcome of packet " + wrong, Checks.ARGUMENT, () -> x.outcome(0, wrong));
            Checks.dueThrow("hops from packet " + wrong, Checks.ARGUMENT, () -> x.hops(0, wrong, -1L));
        }
    }
}
