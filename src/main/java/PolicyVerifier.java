import java.util.NoSuchElementException;

/**
 * A verifier of network policies: tests and changes of packets are joined, repeated and chosen
 * between, compared for all packets at once, and turned into tables of rules.
 */
public final class PolicyVerifier {
    private static final int FIELDS = 3;
    private static final int VALUES = 4;
    private static final int PACKETS = 64;
    private static final int MOST_POLICIES = 50;

    private static final int DROP = 0;
    private static final int PASS = 1;
    private static final int TEST = 2;
    private static final int SET = 3;
    private static final int UNION = 4;
    private static final int THEN = 5;
    private static final int STAR = 6;
    private static final int NOT = 7;
    private static final int CHOICE = 8;

    private static final int ANY = -1;
    private static final int NONE = -1;
    private static final int ACTIONS_OF_RULE = 3;

    private final Policy[] policies;
    private final Responses responses;
    private int made;
    private int different;

    public PolicyVerifier() {
        policies = new Policy[MOST_POLICIES];
        responses = new Responses();
        made = 0;
        different = 0;
    }

    public int policy(int kind, int a, int b, int c)
            throws IllegalArgumentException, UnsupportedOperationException, IllegalStateException {
        if (!isWellFormed(kind, a, b, c)) {
            throw new IllegalArgumentException();
        }
        if ((kind == NOT || kind == CHOICE) && !policies[a].filtering) {
            throw new UnsupportedOperationException();
        }
        if (made >= MOST_POLICIES) {
            throw new IllegalStateException();
        }
        Policy next = new Policy(isFilter(kind, a, b, c));
        fillOutcomes(next.outcomes, kind, a, b, c);
        return keep(next);
    }

    public long outcome(int policy, int packet) throws NoSuchElementException, IllegalArgumentException {
        Policy asked = find(policy);
        checkPacket(packet);
        return asked.outcomes[packet];
    }

    public long image(int policy, long set) throws NoSuchElementException {
        return givenFor(find(policy).outcomes, set);
    }

    public long source(int policy, long set) throws NoSuchElementException {
        long[] outcomes = find(policy).outcomes;
        long sources = 0L;
        for (int packet = 0; packet < PACKETS; packet++) {
            if ((outcomes[packet] & set) != 0L) {
                sources |= only(packet);
            }
        }
        return sources;
    }

    public int filter(int policy) throws NoSuchElementException {
        return find(policy).filtering ? 1 : 0;
    }

    public int same(int first, int second) throws NoSuchElementException {
        return leastDifference(find(first).outcomes, find(second).outcomes) == NONE ? 1 : 0;
    }

    public int covers(int first, int second) throws NoSuchElementException {
        long[] wide = find(first).outcomes;
        long[] narrow = find(second).outcomes;
        for (int packet = 0; packet < PACKETS; packet++) {
            if ((narrow[packet] & ~wide[packet]) != 0L) {
                return 0;
            }
        }
        return 1;
    }

    public int differ(int first, int second) throws NoSuchElementException, UnsupportedOperationException {
        int packet = leastDifference(find(first).outcomes, find(second).outcomes);
        if (packet == NONE) {
            throw new UnsupportedOperationException();
        }
        return packet;
    }

    public int rules(int policy) throws NoSuchElementException {
        return tableOf(find(policy)).size;
    }

    public int rule(int policy, int k, int what) throws NoSuchElementException, IllegalArgumentException {
        Policy asked = find(policy);
        Table table = tableOf(asked);
        if (k < 0 || k >= table.size) {
            throw new NoSuchElementException();
        }
        if (what < 0 || what > ACTIONS_OF_RULE) {
            throw new IllegalArgumentException();
        }
        if (what == ACTIONS_OF_RULE) {
            // For one packet no two outcomes share an action, so the outcomes count the actions.
            return Long.bitCount(asked.outcomes[table.firstPacket[k]]);
        }
        return what < table.fixedFields[k] ? valueOf(table.firstPacket[k], what) : ANY;
    }

    public int match(int policy, int packet) throws NoSuchElementException, IllegalArgumentException {
        Policy asked = find(policy);
        checkPacket(packet);
        return tableOf(asked).placeOfPacket[packet];
    }

    public int hops(int policy, int packet, long set) throws NoSuchElementException, IllegalArgumentException {
        long[] outcomes = find(policy).outcomes;
        checkPacket(packet);
        long reached = only(packet);
        // A shortest way visits no packet twice, so it has fewer hops than there are packets.
        for (int taken = 0; taken < PACKETS; taken++) {
            if ((reached & set) != 0L) {
                return taken;
            }
            long further = reached | givenFor(outcomes, reached);
            if (further == reached) {
                return NONE;
            }
            reached = further;
        }
        return NONE;
    }

    public int count(int what) throws IllegalArgumentException {
        if (what != 0 && what != 1) {
            throw new IllegalArgumentException();
        }
        return what == 0 ? made : different;
    }

    private boolean isWellFormed(int kind, int a, int b, int c) {
        switch (kind) {
            case DROP:
            case PASS:
                return true;
            case TEST:
            case SET:
                return a >= 0 && a < FIELDS && b >= 0 && b < VALUES;
            case UNION:
            case THEN:
                return isMade(a) && isMade(b);
            case STAR:
            case NOT:
                return isMade(a);
            case CHOICE:
                return isMade(a) && isMade(b) && isMade(c);
            default:
                return false;
        }
    }

    private boolean isMade(int number) {
        return number >= 0 && number < made;
    }

    private Policy find(int number) throws NoSuchElementException {
        if (!isMade(number)) {
            throw new NoSuchElementException();
        }
        return policies[number];
    }

    private static void checkPacket(int packet) throws IllegalArgumentException {
        if (packet < 0 || packet >= PACKETS) {
            throw new IllegalArgumentException();
        }
    }

    private boolean isFilter(int kind, int a, int b, int c) {
        switch (kind) {
            case DROP:
            case PASS:
            case TEST:
            case NOT:
                return true;
            case UNION:
            case THEN:
                return policies[a].filtering && policies[b].filtering;
            case STAR:
                return policies[a].filtering;
            case CHOICE:
                return policies[a].filtering && policies[b].filtering && policies[c].filtering;
            default:
                return false;
        }
    }

    private void fillOutcomes(long[] outcomes, int kind, int a, int b, int c) {
        for (int packet = 0; packet < PACKETS; packet++) {
            outcomes[packet] = kind == TEST || kind == SET
                    ? fieldOutcome(kind, a, b, packet)
                    : joinedOutcome(kind, a, b, c, packet);
        }
        if (kind == STAR) {
            closeOverSteps(outcomes);
        }
    }

    private static long fieldOutcome(int kind, int field, int value, int packet) {
        int had = valueOf(packet, field);
        if (kind == SET) {
            return only(packet + (value - had) * weightOf(field));
        }
        return had == value ? only(packet) : 0L;
    }

    private long joinedOutcome(int kind, int a, int b, int c, int packet) {
        switch (kind) {
            case PASS:
                return only(packet);
            case UNION:
                return given(a, packet) | given(b, packet);
            case THEN:
                return givenFor(policies[b].outcomes, given(a, packet));
            case STAR:
                return only(packet) | given(a, packet);
            case NOT:
                return given(a, packet) == 0L ? only(packet) : 0L;
            case CHOICE:
                return given(a, packet) != 0L ? given(b, packet) : given(c, packet);
            default:
                return 0L;
        }
    }

    private long given(int number, int packet) {
        return policies[number].outcomes[packet];
    }

    /** Goes through the packets as midway stops, so that one round finds the steps of every length. */
    private static void closeOverSteps(long[] outcomes) {
        for (int midway = 0; midway < PACKETS; midway++) {
            for (int packet = 0; packet < PACKETS; packet++) {
                if (has(outcomes[packet], midway)) {
                    outcomes[packet] |= outcomes[midway];
                }
            }
        }
    }

    private int keep(Policy next) {
        if (isNew(next.outcomes)) {
            different++;
        }
        int number = made;
        policies[number] = next;
        made++;
        return number;
    }

    private boolean isNew(long[] outcomes) {
        for (int number = 0; number < made; number++) {
            if (leastDifference(policies[number].outcomes, outcomes) == NONE) {
                return false;
            }
        }
        return true;
    }

    /** Policies never change, so a table is made once, and only if it is asked for. */
    private Table tableOf(Policy policy) {
        if (policy.table == null) {
            responses.read(policy.outcomes);
            Table table = new Table();
            table.fill(responses);
            policy.table = table;
        }
        return policy.table;
    }

    private static long givenFor(long[] outcomes, long set) {
        long all = 0L;
        for (int packet = 0; packet < PACKETS; packet++) {
            if (has(set, packet)) {
                all |= outcomes[packet];
            }
        }
        return all;
    }

    private static int leastDifference(long[] one, long[] other) {
        for (int packet = 0; packet < PACKETS; packet++) {
            if (one[packet] != other[packet]) {
                return packet;
            }
        }
        return NONE;
    }

    private static long only(int packet) {
        return 1L << packet;
    }

    private static boolean has(long set, int packet) {
        return ((set >>> packet) & 1L) != 0L;
    }

    private static int shiftOf(int field) {
        return 2 * (FIELDS - 1 - field);
    }

    private static int weightOf(int field) {
        return 1 << shiftOf(field);
    }

    private static int valueOf(int packet, int field) {
        return (packet >> shiftOf(field)) & (VALUES - 1);
    }

    private static final class Policy {
        final boolean filtering;
        final long[] outcomes;
        Table table;

        Policy(boolean filtering) {
            this.filtering = filtering;
            outcomes = new long[PACKETS];
            table = null;
        }
    }

    /** The response of every packet to one policy; used again for each policy that is tabled. */
    private static final class Responses {
        // An action is one of 125 numbers, so a set of actions needs two longs.
        private static final int KEEP = VALUES;
        private static final int CHOICES = VALUES + 1;
        private static final int HALF = 64;

        private final long[] low;
        private final long[] high;

        Responses() {
            low = new long[PACKETS];
            high = new long[PACKETS];
        }

        void read(long[] outcomes) {
            for (int packet = 0; packet < PACKETS; packet++) {
                readPacket(packet, outcomes[packet]);
            }
        }

        private void readPacket(int packet, long outcomes) {
            long lowActions = 0L;
            long highActions = 0L;
            for (int result = 0; result < PACKETS; result++) {
                if (has(outcomes, result)) {
                    int action = actionFrom(packet, result);
                    if (action < HALF) {
                        lowActions |= 1L << action;
                    } else {
                        highActions |= 1L << (action - HALF);
                    }
                }
            }
            low[packet] = lowActions;
            high[packet] = highActions;
        }

        private static int actionFrom(int packet, int result) {
            int action = 0;
            for (int field = 0; field < FIELDS; field++) {
                int value = valueOf(result, field);
                action = action * CHOICES + (value == valueOf(packet, field) ? KEEP : value);
            }
            return action;
        }

        boolean areAlike(int from, int size) {
            for (int packet = from + 1; packet < from + size; packet++) {
                if (low[packet] != low[from] || high[packet] != high[from]) {
                    return false;
                }
            }
            return true;
        }
    }

    /** The table of a policy: each rule by the least packet that it matches and its fields with a value. */
    private static final class Table {
        final int[] firstPacket;
        final int[] fixedFields;
        final int[] placeOfPacket;
        int size;

        Table() {
            firstPacket = new int[PACKETS];
            fixedFields = new int[PACKETS];
            placeOfPacket = new int[PACKETS];
            size = 0;
        }

        void fill(Responses responses) {
            addRegion(responses, 0, 0);
        }

        /** Fields are fixed from 0 on, so a region is an unbroken row of packets from its first on. */
        private void addRegion(Responses responses, int first, int fixed) {
            int packets = PACKETS >> (2 * fixed);
            if (fixed >= FIELDS || responses.areAlike(first, packets)) {
                addRule(first, fixed, packets);
                return;
            }
            for (int value = 0; value < VALUES; value++) {
                addRegion(responses, first + value * weightOf(fixed), fixed + 1);
            }
        }

        private void addRule(int first, int fixed, int packets) {
            firstPacket[size] = first;
            fixedFields[size] = fixed;
            for (int packet = first; packet < first + packets; packet++) {
                placeOfPacket[packet] = size;
            }
            size++;
        }
    }
}
