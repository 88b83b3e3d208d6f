import java.util.NoSuchElementException;

/** What the project's tests share: calls with the answer or the exception that is due. */
final class Checks {
    static final Class<?> NO_SUCH = NoSuchElementException.class;
    static final Class<?> ARGUMENT = IllegalArgumentException.class;
    static final Class<?> UNSUPPORTED = UnsupportedOperationException.class;
    static final Class<?> STATE = IllegalStateException.class;

    static final int DROP = 0;
    static final int PASS = 1;
    static final int TEST = 2;
    static final int SET = 3;
    static final int UNION = 4;
    static final int THEN = 5;
    static final int STAR = 6;
    static final int NOT = 7;
    static final int CHOICE = 8;

    /** Stands for what a kind has no use for. */
    static final int UNUSED = -77;

    private static int checked = 0;
    private static int wrong = 0;

    interface Call {
        long answer();
    }

    private Checks() {
    }

    static void due(String name, long want, Call call) {
        expect(name, String.valueOf(want), call);
    }

    static void dueThrow(String name, Class<?> want, Call call) {
        expect(name, "throws." + want.getSimpleName(), call);
    }

    static void holds(String name, boolean truth) {
        due(name, 1, () -> truth ? 1 : 0);
    }

    static void expect(String name, String want, Call call) {
        String got = told(call);
        checked++;
        if (!got.equals(want)) {
            wrong++;
            System.out.println(name + " answered " + got + ", due is " + want);
        }
    }

    /** A test of its own for one sentence of the document, which is told if an answer breaks it. */
    static void sentence(String words, Runnable test) {
        int checkedBefore = checked;
        int wrongBefore = wrong;
        try {
            test.run();
        } catch (RuntimeException e) {
            wrong++;
            System.out.println("a call that should have answered threw " + e);
        }
        if (checked == checkedBefore) {
            wrong++;
            System.out.println("no answer was looked at");
        }
        if (wrong != wrongBefore) {
            System.out.println("BROKEN: " + words);
        }
    }

    static String told(Call call) {
        try {
            return String.valueOf(call.answer());
        } catch (RuntimeException e) {
            return "throws." + e.getClass().getSimpleName();
        }
    }

    /** An object in which so many policies were made: the first is a SET, all others are PASS. */
    static PolicyVerifier withPolicies(int policies) {
        PolicyVerifier x = new PolicyVerifier();
        for (int number = 0; number < policies; number++) {
            x.policy(number == 0 ? SET : PASS, 1, 1, UNUSED);
        }
        return x;
    }

    static int packet(int field0, int field1, int field2) {
        return 16 * field0 + 4 * field1 + field2;
    }

    static long setOf(int... packets) {
        long set = 0L;
        for (int packet : packets) {
            set |= 1L << packet;
        }
        return set;
    }

    static int drop(PolicyVerifier x) {
        return x.policy(DROP, UNUSED, UNUSED, UNUSED);
    }

    static int pass(PolicyVerifier x) {
        return x.policy(PASS, UNUSED, UNUSED, UNUSED);
    }

    static int test(PolicyVerifier x, int field, int value) {
        return x.policy(TEST, field, value, UNUSED);
    }

    static int change(PolicyVerifier x, int field, int value) {
        return x.policy(SET, field, value, UNUSED);
    }

    static int union(PolicyVerifier x, int a, int b) {
        return x.policy(UNION, a, b, UNUSED);
    }

    static int then(PolicyVerifier x, int a, int b) {
        return x.policy(THEN, a, b, UNUSED);
    }

    static int star(PolicyVerifier x, int a) {
        return x.policy(STAR, a, UNUSED, UNUSED);
    }

    static int not(PolicyVerifier x, int a) {
        return x.policy(NOT, a, UNUSED, UNUSED);
    }

    static int choice(PolicyVerifier x, int a, int b, int c) {
        return x.policy(CHOICE, a, b, c);
    }

    /** Packet 0 alone passes. */
    static int firstPacket(PolicyVerifier x) {
        return then(x, then(x, test(x, 0, 0), test(x, 1, 0)), test(x, 2, 0));
    }

    /** Packet 63 alone passes. */
    static int lastPacket(PolicyVerifier x) {
        return then(x, then(x, test(x, 0, 3), test(x, 1, 3)), test(x, 2, 3));
    }

    /** If the packet has the value, the field gets the new one; other packets are dropped. */
    static int move(PolicyVerifier x, int field, int from, int to) {
        return then(x, test(x, field, from), change(x, field, to));
    }

    /** Goes from each packet to that of the next code, and from 63 to 0; makes 37 policies. */
    static int ringOfPackets(PolicyVerifier x) {
        int pass = pass(x);
        int high = oneUp(x, 0);
        int middle = then(x, oneUp(x, 1), choice(x, test(x, 1, 0), high, pass));
        return then(x, oneUp(x, 2), choice(x, test(x, 2, 0), middle, pass));
    }

    /** Goes from each packet to that of the next code, and from 63 to none; makes 44 policies. */
    static int rowOfPackets(PolicyVerifier x) {
        return then(x, not(x, lastPacket(x)), ringOfPackets(x));
    }

    private static int oneUp(PolicyVerifier x, int field) {
        int next = change(x, field, 0);
        for (int value = 2; value >= 0; value--) {
            next = choice(x, test(x, field, value), change(x, field, value + 1), next);
        }
        return next;
    }

    /** Gives each of the fields the same value. */
    static int changeAll(PolicyVerifier x, int value) {
        return then(x, change(x, 0, value), then(x, change(x, 1, value), change(x, 2, value)));
    }

    /** Gives the field every value. */
    static int anyValue(PolicyVerifier x, int field) {
        int low = union(x, change(x, field, 0), change(x, field, 1));
        return union(x, low, union(x, change(x, field, 2), change(x, field, 3)));
    }

    static void end() {
        System.out.println(checked + " answers looked at, " + wrong + " not as due");
        if (wrong != 0 || checked == 0) {
            System.exit(1);
        }
    }
}
