import java.util.ArrayList;
import java.util.Collections;
import java.util.HashSet;
import java.util.List;
import java.util.NoSuchElementException;
import java.util.Random;
import java.util.Set;
import java.util.TreeSet;

/**
 * All promises: long runs of calls, wrong ones among them, answered by the class and by a plain model
 * that follows the document's words with sets of packets and texts. The seeds are fixed, so every run
 * is the same.
 */
public final class ModelTest {
    private static final int RUNS = 400;
    private static final int WALKS = 100;
    private static final int CALLS = 512;
    private static final int NO_WALK = -1;

    public static void main(String[] args) {
        for (int seed = 0; seed < RUNS + WALKS; seed++) {
            oneRun(seed, seed >= RUNS);
        }
        Checks.end();
    }

    /** Policies made at random seldom lead far, so some runs begin with one that walks through all packets. */
    private static void oneRun(int seed, boolean walks) {
        Random random = new Random(seed);
        Both both = new Both(new PolicyVerifier(), new Model());
        int walk = walks ? walkThroughAll(both, random) : NO_WALK;
        for (int call = both.model().kinds.size(); call < CALLS; call++) {
            // Runs differ in how many of their calls make policies.
            int method = random.nextInt(4) < seed % 4 ? 0 : random.nextInt(13);
            both.compare("seed " + seed + ", call " + call, anyCall(random, method, both.model(), walk));
        }
    }

    private record Asked(int method, int kind, int a, int b, int c, int packet, int place, long set) {
    }

    private record Both(PolicyVerifier x, Model model) {
        void compare(String name, Asked asked) {
            String want = Checks.told(() -> ofModel(model, asked));
            Checks.expect(name + ": " + asked, want, () -> ofClass(x, asked));
        }

        int make(int kind, int a, int b, int c) {
            compare("walk", new Asked(0, kind, a, b, c, 0, 0, 0L));
            return model.kinds.size() - 1;
        }
    }

    /** Goes around through all packets, in an order of fields and of values that is the seed's own. */
    private static int walkThroughAll(Both both, Random random) {
        List<Integer> fields = shuffled(3, random);
        int pass = both.make(Checks.PASS, 0, 0, 0);
        int next = pass;
        for (int field : fields) {
            List<Integer> values = shuffled(4, random);
            int carries = both.make(Checks.TEST, field, values.get(0), 0);
            int carry = both.make(Checks.CHOICE, carries, next, pass);
            next = both.make(Checks.THEN, nextValue(both, field, values), carry, 0);
        }
        return next;
    }

    private static int nextValue(Both both, int field, List<Integer> values) {
        int next = both.make(Checks.SET, field, values.get(0), 0);
        for (int place = 2; place >= 0; place--) {
            int has = both.make(Checks.TEST, field, values.get(place), 0);
            int change = both.make(Checks.SET, field, values.get(place + 1), 0);
            next = both.make(Checks.CHOICE, has, change, next);
        }
        return next;
    }

    private static List<Integer> shuffled(int size, Random random) {
        List<Integer> numbers = new ArrayList<>();
        for (int number = 0; number < size; number++) {
            numbers.add(number);
        }
        Collections.shuffle(numbers, random);
        return numbers;
    }

    private static Asked anyCall(Random random, int method, Model model, int walk) {
        int a = anyNumber(random, model, walk);
        int b = anyNumber(random, model, walk);
        int c = anyNumber(random, model, walk);
        int place = random.nextInt(random.nextBoolean() ? 66 : 9) - 1;
        return new Asked(method, random.nextInt(11) - 1, a, b, c, random.nextInt(66) - 1, place, anySet(random));
    }

    private static int anyNumber(Random random, Model model, int walk) {
        int choice = random.nextInt(6);
        if (choice == 0 && walk != NO_WALK) {
            return walk;
        }
        if (choice < 2) {
            return random.nextInt(5) - 1;
        }
        return random.nextInt(model.kinds.size() + 1) - (random.nextInt(40) == 0 ? 1 : 0);
    }

    private static long anySet(Random random) {
        switch (random.nextInt(4)) {
            case 0:
                return 1L << random.nextInt(64);
            case 1:
                return 1L << random.nextInt(64) | 1L << random.nextInt(64);
            case 2:
                return random.nextLong();
            default:
                return random.nextInt(3) - 1;
        }
    }

    private static long ofClass(PolicyVerifier x, Asked n) {
        switch (n.method()) {
            case 0: return x.policy(n.kind(), n.a(), n.b(), n.c());
            case 1: return x.outcome(n.a(), n.packet());
            case 2: return x.image(n.a(), n.set());
            case 3: return x.source(n.a(), n.set());
            case 4: return x.filter(n.a());
            case 5: return x.same(n.a(), n.b());
            case 6: return x.covers(n.a(), n.b());
            case 7: return x.differ(n.a(), n.b());
            case 8: return x.rules(n.a());
            case 9: return x.rule(n.a(), n.place(), n.kind());
            case 10: return x.match(n.a(), n.packet());
            case 11: return x.hops(n.a(), n.packet(), n.set());
            default: return x.count(n.kind());
        }
    }

    private static long ofModel(Model m, Asked n) {
        switch (n.method()) {
            case 0: return m.make(n.kind(), n.a(), n.b(), n.c());
            case 1: return asLong(m.checked(n.a(), n.packet()).get(n.packet()));
            case 2: return asLong(Model.give(m.find(n.a()), asSet(n.set())));
            case 3: return m.sources(n.a(), asSet(n.set()));
            case 4: m.find(n.a()); return m.filters.get(n.a()) ? 1 : 0;
            case 5: return m.find(n.a()).equals(m.find(n.b())) ? 1 : 0;
            case 6: return m.containsAll(n.a(), n.b()) ? 1 : 0;
            case 7: return m.firstUnlike(n.a(), n.b());
            case 8: return m.table(n.a()).size();
            case 9: return m.partOfRule(n.a(), n.place(), n.kind());
            case 10: return m.matching(n.a(), n.packet());
            case 11: return m.way(n.a(), n.packet(), asSet(n.set()));
            default: return m.number(n.kind());
        }
    }

    private static long asLong(Set<Integer> packets) {
        long set = 0L;
        for (int packet : packets) {
            set |= 1L << packet;
        }
        return set;
    }

    private static Set<Integer> asSet(long set) {
        Set<Integer> packets = new TreeSet<>();
        for (int packet = 0; packet < 64; packet++) {
            if ((set & 1L << packet) != 0L) {
                packets.add(packet);
            }
        }
        return packets;
    }

    /** A rule as text: its three values, '*' for ANY, and the actions of the region's packets. */
    private record Rule(String values, Set<String> actions) {
        boolean matches(int packet) {
            String text = text(packet);
            for (int field = 0; field < 3; field++) {
                if (values.charAt(field) != '*' && values.charAt(field) != text.charAt(field)) {
                    return false;
                }
            }
            return true;
        }
    }

    private static String text(int packet) {
        return "" + packet / 16 + packet / 4 % 4 + packet % 4;
    }

    private static int code(String text) {
        return Integer.parseInt(text, 4);
    }

    private static final class Model {
        final List<Integer> kinds = new ArrayList<>();
        final List<Boolean> filters = new ArrayList<>();
        final List<List<Set<Integer>>> outcomes = new ArrayList<>();

        List<Set<Integer>> find(int number) {
            if (number < 0 || number >= kinds.size()) {
                throw new NoSuchElementException();
            }
            return outcomes.get(number);
        }

        List<Set<Integer>> checked(int number, int packet) {
            List<Set<Integer>> found = find(number);
            if (packet < 0 || packet > 63) {
                throw new IllegalArgumentException();
            }
            return found;
        }

        boolean isMade(int number) {
            return number >= 0 && number < kinds.size();
        }

        int make(int kind, int a, int b, int c) {
            boolean usesA = kind >= 4;
            boolean usesB = kind == 4 || kind == 5 || kind == 8;
            boolean usesC = kind == 8;
            boolean wrongField = (kind == 2 || kind == 3) && (a < 0 || a > 2 || b < 0 || b > 3);
            boolean wrongName = usesA && !isMade(a) || usesB && !isMade(b) || usesC && !isMade(c);
            if (kind < 0 || kind > 8 || wrongField || wrongName) {
                throw new IllegalArgumentException();
            }
            if ((kind == 7 || kind == 8) && !filters.get(a)) {
                throw new UnsupportedOperationException();
            }
            if (kinds.size() == 50) {
                throw new IllegalStateException();
            }
            List<Set<Integer>> all = new ArrayList<>();
            for (int packet = 0; packet < 64; packet++) {
                all.add(outcomeOf(kind, a, b, c, packet));
            }
            boolean parts = (!usesA || filters.get(a)) && (!usesB || filters.get(b)) && (!usesC || filters.get(c));
            filters.add(kind != 3 && (kind == 7 || parts));
            outcomes.add(all);
            kinds.add(kind);
            return kinds.size() - 1;
        }

        Set<Integer> outcomeOf(int kind, int a, int b, int c, int packet) {
            Set<Integer> self = Set.of(packet);
            switch (kind) {
                case 0: return Set.of();
                case 1: return self;
                case 2: return text(packet).charAt(a) == '0' + b ? self : Set.of();
                case 3: return Set.of(code(text(packet).substring(0, a) + b + text(packet).substring(a + 1)));
                case 4: {
                    Set<Integer> both = new TreeSet<>(find(a).get(packet));
                    both.addAll(find(b).get(packet));
                    return both;
                }
                case 5: return give(find(b), find(a).get(packet));
                case 6: {
                    Set<Integer> reached = new TreeSet<>(self);
                    while (reached.addAll(give(find(a), reached))) {
                        continue;
                    }
                    return reached;
                }
                case 7: return find(a).get(packet).isEmpty() ? self : Set.of();
                default: return find(a).get(packet).isEmpty() ? find(c).get(packet) : find(b).get(packet);
            }
        }

        static Set<Integer> give(List<Set<Integer>> policy, Set<Integer> packets) {
            Set<Integer> all = new TreeSet<>();
            for (int packet : packets) {
                all.addAll(policy.get(packet));
            }
            return all;
        }

        long sources(int number, Set<Integer> set) {
            List<Set<Integer>> policy = find(number);
            Set<Integer> found = new TreeSet<>();
            for (int packet = 0; packet < 64; packet++) {
                Set<Integer> shared = new TreeSet<>(policy.get(packet));
                shared.retainAll(set);
                if (!shared.isEmpty()) {
                    found.add(packet);
                }
            }
            return asLong(found);
        }

        boolean containsAll(int first, int second) {
            List<Set<Integer>> wide = find(first);
            List<Set<Integer>> narrow = find(second);
            boolean all = true;
            for (int packet = 0; packet < 64; packet++) {
                all &= wide.get(packet).containsAll(narrow.get(packet));
            }
            return all;
        }

        int firstUnlike(int first, int second) {
            List<Set<Integer>> one = find(first);
            List<Set<Integer>> other = find(second);
            for (int packet = 0; packet < 64; packet++) {
                if (!one.get(packet).equals(other.get(packet))) {
                    return packet;
                }
            }
            throw new UnsupportedOperationException();
        }

        List<Rule> table(int number) {
            List<Rule> table = new ArrayList<>();
            cut(find(number), "", table);
            return table;
        }

        static void cut(List<Set<Integer>> policy, String fixed, List<Rule> table) {
            Rule rule = new Rule((fixed + "***").substring(0, 3), new HashSet<>());
            Set<Set<String>> responses = new HashSet<>();
            for (int packet = 0; packet < 64; packet++) {
                if (rule.matches(packet)) {
                    responses.add(response(packet, policy.get(packet)));
                }
            }
            if (responses.size() == 1) {
                rule.actions().addAll(responses.iterator().next());
                table.add(rule);
                return;
            }
            for (int value = 0; value < 4; value++) {
                cut(policy, fixed + value, table);
            }
        }

        static Set<String> response(int packet, Set<Integer> results) {
            Set<String> actions = new HashSet<>();
            for (int result : results) {
                StringBuilder action = new StringBuilder();
                for (int field = 0; field < 3; field++) {
                    char value = text(result).charAt(field);
                    action.append(value == text(packet).charAt(field) ? 'K' : value);
                }
                actions.add(action.toString());
            }
            return actions;
        }

        int partOfRule(int number, int k, int what) {
            List<Rule> table = table(number);
            if (k < 0 || k >= table.size()) {
                throw new NoSuchElementException();
            }
            if (what < 0 || what > 3) {
                throw new IllegalArgumentException();
            }
            Rule rule = table.get(k);
            if (what == 3) {
                return rule.actions().size();
            }
            return rule.values().charAt(what) == '*' ? -1 : rule.values().charAt(what) - '0';
        }

        int matching(int number, int packet) {
            checked(number, packet);
            List<Rule> table = table(number);
            for (int k = 0; k < table.size(); k++) {
                if (table.get(k).matches(packet)) {
                    return k;
                }
            }
            return Integer.MIN_VALUE;
        }

        int way(int number, int packet, Set<Integer> set) {
            List<Set<Integer>> policy = checked(number, packet);
            Set<Integer> at = Set.of(packet);
            for (int times = 0; times < 200; times++) {
                for (int one : at) {
                    if (set.contains(one)) {
                        return times;
                    }
                }
                at = give(policy, at);
            }
            return -1;
        }

        int number(int what) {
            if (what != 0 && what != 1) {
                throw new IllegalArgumentException();
            }
            return what == 0 ? kinds.size() : new HashSet<>(outcomes).size();
        }
    }
}
