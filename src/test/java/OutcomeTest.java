/** Promises 2 (what each kind gives), 3 (outcome), 4 (image), 5 (source) and 13 (hops). */
public final class OutcomeTest {
    public static void main(String[] args) {
        dropAndPass();
        testsOfEachField();
        setsOfEachField();
        unions();
        thens();
        stars();
        nots();
        choices();
        images();
        sources();
        hopsAlongARing();
        Checks.end();
    }

    private static void dropAndPass() {
        PolicyVerifier x = new PolicyVerifier();
        int drop = Checks.drop(x);
        int pass = Checks.pass(x);
        for (int packet = 0; packet < 64; packet++) {
            Due.outcome(x, drop, packet, 0L);
            Due.outcome(x, pass, packet, 1L << packet);
        }
    }

    private static void testsOfEachField() {
        PolicyVerifier x = new PolicyVerifier();
        int first = Checks.test(x, 0, 3);
        int second = Checks.test(x, 1, 2);
        int third = Checks.test(x, 2, 0);
        for (int packet = 0; packet < 64; packet++) {
            Due.outcome(x, first, packet, packet / 16 == 3 ? 1L << packet : 0L);
            Due.outcome(x, second, packet, packet / 4 % 4 == 2 ? 1L << packet : 0L);
            Due.outcome(x, third, packet, packet % 4 == 0 ? 1L << packet : 0L);
        }
    }

    private static void setsOfEachField() {
        PolicyVerifier x = new PolicyVerifier();
        int first = Checks.change(x, 0, 3);
        int second = Checks.change(x, 1, 2);
        int third = Checks.change(x, 2, 0);
        for (int packet = 0; packet < 64; packet++) {
            Due.outcome(x, first, packet, 1L << 48 + packet % 16);
            Due.outcome(x, second, packet, 1L << packet / 16 * 16 + 8 + packet % 4);
            Due.outcome(x, third, packet, 1L << packet / 4 * 4);
        }
    }

    private static void unions() {
        PolicyVerifier x = new PolicyVerifier();
        int both = Checks.union(x, Checks.change(x, 0, 3), Checks.test(x, 1, 1));
        Due.outcome(x, both, Checks.packet(0, 1, 2), Checks.setOf(Checks.packet(3, 1, 2), Checks.packet(0, 1, 2)));
        Due.outcome(x, both, Checks.packet(0, 2, 2), Checks.setOf(Checks.packet(3, 2, 2)));
        Due.outcome(x, both, Checks.packet(3, 1, 0), Checks.setOf(Checks.packet(3, 1, 0)));
    }

    private static void thens() {
        PolicyVerifier x = new PolicyVerifier();
        int test = Checks.test(x, 2, 1);
        int set = Checks.change(x, 2, 1);
        int testThenSet = Checks.then(x, test, set);
        int setThenTest = Checks.then(x, set, test);
        Due.outcome(x, testThenSet, 0, 0L);
        Due.outcome(x, setThenTest, 0, Checks.setOf(1));
        int many = Checks.union(x, Checks.change(x, 0, 1), Checks.change(x, 0, 2));
        int manyMore = Checks.then(x, many, Checks.union(x, set, Checks.change(x, 2, 2)));
        Due.outcome(x, manyMore, 0, Checks.setOf(17, 18, 33, 34));
        Due.outcome(x, manyMore, 63, Checks.setOf(29, 30, 45, 46));
    }

    private static void stars() {
        PolicyVerifier x = new PolicyVerifier();
        int drop = Checks.drop(x);
        int starOfDrop = Checks.star(x, drop);
        Due.outcome(x, starOfDrop, 0, 1L);
        Due.outcome(x, starOfDrop, 63, 1L << 63);
        int down = Checks.union(x, Checks.move(x, 2, 3, 2), Checks.union(x, Checks.move(x, 2, 2, 1), Checks.move(x, 2, 1, 0)));
        int starOfDown = Checks.star(x, down);
        Due.outcome(x, starOfDown, 0, Checks.setOf(0));
        Due.outcome(x, starOfDown, 1, Checks.setOf(0, 1));
        Due.outcome(x, starOfDown, 63, Checks.setOf(60, 61, 62, 63));
        int up = Checks.union(x, Checks.move(x, 1, 0, 1), Checks.union(x, Checks.move(x, 1, 1, 2), Checks.move(x, 1, 2, 3)));
        int starOfUp = Checks.star(x, up);
        Due.outcome(x, starOfUp, 1, Checks.setOf(1, 5, 9, 13));
        Due.outcome(x, starOfUp, 62, Checks.setOf(62));
    }

    private static void nots() {
        PolicyVerifier x = new PolicyVerifier();
        int not = Checks.not(x, Checks.test(x, 1, 3));
        int notNot = Checks.not(x, not);
        for (int packet = 0; packet < 64; packet++) {
            boolean has = packet / 4 % 4 == 3;
            Due.outcome(x, not, packet, has ? 0L : 1L << packet);
            Due.outcome(x, notNot, packet, has ? 1L << packet : 0L);
        }
    }

    private static void choices() {
        PolicyVerifier x = new PolicyVerifier();
        int test = Checks.test(x, 0, 2);
        int choice = Checks.choice(x, test, Checks.change(x, 1, 0), Checks.change(x, 2, 3));
        Due.outcome(x, choice, Checks.packet(2, 3, 1), Checks.setOf(Checks.packet(2, 0, 1)));
        Due.outcome(x, choice, Checks.packet(1, 3, 1), Checks.setOf(Checks.packet(1, 3, 3)));
        int drop = Checks.drop(x);
        int dropped = Checks.choice(x, test, drop, test);
        // b gives none where a gives some: c is not asked then.
        Due.outcome(x, dropped, Checks.packet(2, 0, 0), 0L);
        Due.outcome(x, dropped, Checks.packet(0, 0, 0), 0L);
    }

    private static void images() {
        PolicyVerifier x = new PolicyVerifier();
        int pass = Checks.pass(x);
        int both = Checks.union(x, Checks.change(x, 0, 0), Checks.test(x, 0, 3));
        Due.image(x, pass, 0L, 0L);
        Due.image(x, pass, -1L, -1L);
        Due.image(x, pass, Long.MIN_VALUE, Long.MIN_VALUE);
        Due.image(x, both, 0L, 0L);
        Due.image(x, both, Checks.setOf(0, 63), Checks.setOf(0, 15, 63));
        Due.image(x, both, -1L, 0xFFFF00000000FFFFL);
        Due.image(x, both, Checks.setOf(1, 17, 33), Checks.setOf(1));
    }

    private static void sources() {
        PolicyVerifier x = new PolicyVerifier();
        int pass = Checks.pass(x);
        int both = Checks.union(x, Checks.change(x, 0, 0), Checks.test(x, 0, 3));
        Due.source(x, pass, 0L, 0L);
        Due.source(x, pass, -1L, -1L);
        Due.source(x, pass, Long.MIN_VALUE, Long.MIN_VALUE);
        Due.source(x, both, 0L, 0L);
        Due.source(x, both, Checks.setOf(1), Checks.setOf(1, 17, 33, 49));
        Due.source(x, both, Checks.setOf(63, 20), Checks.setOf(63));
        Due.source(x, both, Checks.setOf(20, 40), 0L);
        Due.source(x, both, -1L, -1L);
    }

    private static int ring(PolicyVerifier x) {
        int low = Checks.union(x, Checks.move(x, 0, 0, 1), Checks.move(x, 0, 1, 2));
        int high = Checks.union(x, Checks.move(x, 0, 2, 3), Checks.move(x, 0, 3, 0));
        return Checks.union(x, low, high);
    }

    private static void hopsAlongARing() {
        PolicyVerifier x = new PolicyVerifier();
        int ring = ring(x);
        for (int from = 0; from < 4; from++) {
            for (int to = 0; to < 4; to++) {
                Due.hops(x, ring, 16 * from + 7, Checks.setOf(16 * to + 7), Math.floorMod(to - from, 4));
            }
        }
        Due.hops(x, ring, 0, Checks.setOf(1, 17, 33, 49), -1);
        Due.hops(x, ring, 0, Checks.setOf(32, 48), 2);
        Due.hops(x, Checks.star(x, ring), 0, Checks.setOf(48), 1);
        Due.hops(x, Checks.then(x, ring, ring), 0, Checks.setOf(48), -1);
        Due.hops(x, Checks.then(x, ring, ring), 0, Checks.setOf(32), 1);
    }
}
