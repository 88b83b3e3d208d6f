import java.util.NoSuchElementException;

/** What the project's tests share: calls with the answer or the exception that is due. */
final class Checks {
    static final Class<?> NO_SUCH = NoSuchElementException.class;
    static final Class<?> ARGUMENT = IllegalArgumentException.class;
    static final Class<?> UNSUPPORTED = UnsupportedOperationException.class;
    static final Class<?> STATE = IllegalStateException.class;

    static final int DROP = 0;
    static final int PASS = 1;
    static final int TEST = 2;
    static final int SET = 3;
    static final int UNION = 4;
    static final int THEN = 5;
    static final int STAR = 6;
    static final int NOT = 7;
    static final int CHOICE = 8;

    /** Stands for what a kind has no use for. */
    static final int UNUSED = -77;

    private static int checked = 0;
    private static int wrong = 0;

    interface Call {
        long answer();
    }

    private Checks() {
    }

    static void due(String name, long want, Call call) {
        expect(name, String.valueOf(want), call);
    }

    static void dueThrow(String name, Class<?> want, Call call) {
        expect(name, "throws." + want.getSimpleName(), call);
    }

    static void expect(String name, String want, Call call) {
        String got = told(call);
        checked++;
        if (!got.equals(want)) {
            wrong++;
            System.out.println(name + " answered " + got + ", due is " + want);
        }
    }

    static String told(Call call) {
        try {
            return String.valueOf(call.answer());
        } catch (RuntimeException e) {
            return "throws." + e.getClass().getSimpleName();
        }
    }

    static int packet(int field0, int field1, int field2) {
        return 16 * field0 + 4 * field1 + field2;
    }

    static long setOf(int... packets) {
        long set = 0L;
        for (int packet : packets) {
            set |= 1L << packet;
        }
        return set;
    }

    static int test(PolicyVerifier x, int field, int value) {
        return x.policy(TEST, field, value, UNUSED);
    }

    static int change(PolicyVerifier x, int field, int value) {
        return x.policy(SET, field, value, UNUSED);
    }

    static int union(PolicyVerifier x, int a, int b) {
        return x.policy(UNION, a, b, UNUSED);
    }

    static int then(PolicyVerifier x, int a, int b) {
        return x.policy(THEN, a, b, UNUSED);
    }

    static int star(PolicyVerifier x, int a) {
        return x.policy(STAR, a, UNUSED, UNUSED);
    }

    static int not(PolicyVerifier x, int a) {
        return x.policy(NOT, a, UNUSED, UNUSED);
    }

    /** If the packet has the value, the field gets the new one; other packets are dropped. */
    static int move(PolicyVerifier x, int field, int from, int to) {
        return then(x, test(x, field, from), change(x, field, to));
    }

    static void end() {
        System.out.println(checked + " answers looked at, " + wrong + " not as due");
        if (wrong != 0 || checked == 0) {
            System.exit(1);
        }
    }
}
