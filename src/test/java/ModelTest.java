import java.util.ArrayList;
import java.util.HashSet;
import java.util.List;
import java.util.NoSuchElementException;
import java.util.Random;
import java.util.Set;
import java.util.TreeSet;

/**
 * All promises: long runs of calls, wrong ones among them, answered by the class and by a plain model
 * that follows the document's words with sets of packets and texts. The seeds are fixed, so every run
 * is the same.
 */
public final class ModelTest {
    private static final int RUNS = 400;
    private static final int CALLS = 512;

    public static void main(String[] args) {
        for (int seed = 0; seed < RUNS; seed++) {
            oneRun(seed);
        }
        Checks.end();
    }

    private static void oneRun(int seed) {
        Random random = new Random(seed);
        PolicyVerifier x = new PolicyVerifier();
        Model model = new Model();
        for (int call = 0; call < CALLS; call++) {
            // Runs differ in how many of their calls make policies.
            int method = random.nextInt(4) < seed % 4 ? 0 : random.nextInt(13);
            int[] n = {anyNumber(random, model), anyNumber(random, model), anyNumber(random, model), random.nextInt(11) - 1};
            int packet = random.nextInt(66) - 1;
            long set = anySet(random);
            String name = "seed " + seed + ", call " + call + ": method " + method + " of "
                    + n[0] + ", " + n[1] + ", " + n[2] + ", " + n[3] + ", packet " + packet + ", set " + set;
            String want = Checks.told(() -> ofModel(model, method, n, packet, set));
            Checks.expect(name, want, () -> ofClass(x, method, n, packet, set));
        }
    }

    private static int anyNumber(Random random, Model model) {
        if (random.nextInt(3) == 0) {
            return random.nextInt(5) - 1;
        }
        return random.nextInt(model.kinds.size() + 1) - (random.nextInt(40) == 0 ? 1 : 0);
    }

    private static long anySet(Random random) {
        switch (random.nextInt(4)) {
            case 0:
                return 1L << random.nextInt(64);
            case 1:
                return 1L << random.nextInt(64) | 1L << random.nextInt(64);
            case 2:
                return random.nextLong();
            default:
                return random.nextInt(3) - 1;
        }
    }

    private static long ofClass(PolicyVerifier x, int method, int[] n, int packet, long set) {
        switch (method) {
            case 0: return x.policy(n[3], n[0], n[1], n[2]);
            case 1: return x.outcome(n[0], packet);
            case 2: return x.image(n[0], set);
            case 3: return x.source(n[0], set);
            case 4: return x.filter(n[0]);
            case 5: return x.same(n[0], n[1]);
            case 6: return x.covers(n[0], n[1]);
            case 7: return x.differ(n[0], n[1]);
            case 8: return x.rules(n[0]);
            case 9: return x.rule(n[0], n[1], n[3]);
            case 10: return x.match(n[0], packet);
            case 11: return x.hops(n[0], packet, set);
            default: return x.count(n[3]);
        }
    }

    private static long ofModel(Model m, int method, int[] n, int packet, long set) {
        switch (method) {
            case 0: return m.make(n[3], n[0], n[1], n[2]);
            case 1: return asLong(m.checked(n[0], packet).get(packet));
            case 2: return asLong(Model.give(m.find(n[0]), asSet(set)));
            case 3: return m.sources(n[0], asSet(set));
            case 4: m.find(n[0]); return m.filters.get(n[0]) ? 1 : 0;
            case 5: return m.find(n[0]).equals(m.find(n[1])) ? 1 : 0;
            case 6: return m.containsAll(n[0], n[1]) ? 1 : 0;
            case 7: return m.firstUnlike(n[0], n[1]);
            case 8: return m.table(n[0]).size();
            case 9: return m.partOfRule(n[0], n[1], n[3]);
            case 10: return m.matching(n[0], packet);
            case 11: return m.way(n[0], packet, asSet(set));
            default: return m.number(n[3]);
        }
    }

    private static long asLong(Set<Integer> packets) {
        long set = 0L;
        for (int packet : packets) {
            set |= 1L << packet;
        }
        return set;
    }

    private static Set<Integer> asSet(long set) {
        Set<Integer> packets = new TreeSet<>();
        for (int packet = 0; packet < 64; packet++) {
            if ((set & 1L << packet) != 0L) {
                packets.add(packet);
            }
        }
        return packets;
    }

    /** A rule as text: its three values, '*' for ANY, and the actions of the region's packets. */
    private record Rule(String values, Set<String> actions) {
        boolean matches(int packet) {
            String text = text(packet);
            for (int field = 0; field < 3; field++) {
                if (values.charAt(field) != '*' && values.charAt(field) != text.charAt(field)) {
                    return false;
                }
            }
            return true;
        }
    }

    private static String text(int packet) {
        return "" + packet / 16 + packet / 4 % 4 + packet % 4;
    }

    private static int code(String text) {
        return Integer.parseInt(text, 4);
    }

    private static final class Model {
        final List<Integer> kinds = new ArrayList<>();
        final List<Boolean> filters = new ArrayList<>();
        final List<List<Set<Integer>>> outcomes = new ArrayList<>();

        List<Set<Integer>> find(int number) {
            if (number < 0 || number >= kinds.size()) {
                throw new NoSuchElementException();
            }
            return outcomes.get(number);
        }

        List<Set<Integer>> checked(int number, int packet) {
            List<Set<Integer>> found = find(number);
            if (packet < 0 || packet > 63) {
                throw new IllegalArgumentException();
            }
            return found;
        }

        boolean isMade(int number) {
            return number >= 0 && number < kinds.size();
        }

        int make(int kind, int a, int b, int c) {
            boolean usesA = kind >= 4;
            boolean usesB = kind == 4 || kind == 5 || kind == 8;
            boolean usesC = kind == 8;
            boolean wrongField = (kind == 2 || kind == 3) && (a < 0 || a > 2 || b < 0 || b > 3);
            boolean wrongName = usesA && !isMade(a) || usesB && !isMade(b) || usesC && !isMade(c);
            if (kind < 0 || kind > 8 || wrongField || wrongName) {
                throw new IllegalArgumentException();
            }
            if ((kind == 7 || kind == 8) && !filters.get(a)) {
                throw new UnsupportedOperationException();
            }
            if (kinds.size() == 50) {
                throw new IllegalStateException();
            }
            List<Set<Integer>> all = new ArrayList<>();
            for (int packet = 0; packet < 64; packet++) {
                all.add(outcomeOf(kind, a, b, c, packet));
            }
            boolean parts = (!usesA || filters.get(a)) && (!usesB || filters.get(b)) && (!usesC || filters.get(c));
            filters.add(kind != 3 && (kind == 7 || parts));
            outcomes.add(all);
            kinds.add(kind);
            return kinds.size() - 1;
        }

        Set<Integer> outcomeOf(int kind, int a, int b, int c, int packet) {
            Set<Integer> self = Set.of(packet);
            switch (kind) {
                case 0: return Set.of();
                case 1: return self;
                case 2: return text(packet).charAt(a) == '0' + b ? self : Set.of();
                case 3: return Set.of(code(text(packet).substring(0, a) + b + text(packet).substring(a + 1)));
                case 4: {
                    Set<Integer> both = new TreeSet<>(find(a).get(packet));
                    both.addAll(find(b).get(packet));
                    return both;
                }
                case 5: return give(find(b), find(a).get(packet));
                case 6: {
                    Set<Integer> reached = new TreeSet<>(self);
                    while (reached.addAll(give(find(a), reached))) {
                        continue;
                    }
                    return reached;
                }
                case 7: return find(a).get(packet).isEmpty() ? self : Set.of();
                default: return find(a).get(packet).isEmpty() ? find(c).get(packet) : find(b).get(packet);
            }
        }

        static Set<Integer> give(List<Set<Integer>> policy, Set<Integer> packets) {
            Set<Integer> all = new TreeSet<>();
            for (int packet : packets) {
                all.addAll(policy.get(packet));
            }
            return all;
        }

        long sources(int number, Set<Integer> set) {
            List<Set<Integer>> policy = find(number);
            Set<Integer> found = new TreeSet<>();
            for (int packet = 0; packet < 64; packet++) {
                Set<Integer> shared = new TreeSet<>(policy.get(packet));
                shared.retainAll(set);
                if (!shared.isEmpty()) {
                    found.add(packet);
                }
            }
            return asLong(found);
        }

        boolean containsAll(int first, int second) {
            List<Set<Integer>> wide = find(first);
            List<Set<Integer>> narrow = find(second);
            boolean all = true;
            for (int packet = 0; packet < 64; packet++) {
                all &= wide.get(packet).containsAll(narrow.get(packet));
            }
            return all;
        }

        int firstUnlike(int first, int second) {
            List<Set<Integer>> one = find(first);
            List<Set<Integer>> other = find(second);
            for (int packet = 0; packet < 64; packet++) {
                if (!one.get(packet).equals(other.get(packet))) {
                    return packet;
                }
            }
            throw new UnsupportedOperationException();
        }

        List<Rule> table(int number) {
            List<Rule> table = new ArrayList<>();
            cut(find(number), "", table);
            return table;
        }

        static void cut(List<Set<Integer>> policy, String fixed, List<Rule> table) {
            Rule rule = new Rule((fixed + "***").substring(0, 3), new HashSet<>());
            Set<Set<String>> responses = new HashSet<>();
            for (int packet = 0; packet < 64; packet++) {
                if (rule.matches(packet)) {
                    responses.add(response(packet, policy.get(packet)));
                }
            }
            if (responses.size() == 1) {
                rule.actions().addAll(responses.iterator().next());
                table.add(rule);
                return;
            }
            for (int value = 0; value < 4; value++) {
                cut(policy, fixed + value, table);
            }
        }

        static Set<String> response(int packet, Set<Integer> results) {
            Set<String> actions = new HashSet<>();
            for (int result : results) {
                StringBuilder action = new StringBuilder();
                for (int field = 0; field < 3; field++) {
                    char value = text(result).charAt(field);
                    action.append(value == text(packet).charAt(field) ? 'K' : value);
                }
                actions.add(action.toString());
            }
            return actions;
        }

        int partOfRule(int number, int k, int what) {
            List<Rule> table = table(number);
            if (k < 0 || k >= table.size()) {
                throw new NoSuchElementException();
            }
            if (what < 0 || what > 3) {
                throw new IllegalArgumentException();
            }
            Rule rule = table.get(k);
            if (what == 3) {
                return rule.actions().size();
            }
            return rule.values().charAt(what) == '*' ? -1 : rule.values().charAt(what) - '0';
        }

        int matching(int number, int packet) {
            checked(number, packet);
            List<Rule> table = table(number);
            for (int k = 0; k < table.size(); k++) {
                if (table.get(k).matches(packet)) {
                    return k;
                }
            }
            return Integer.MIN_VALUE;
        }

        int way(int number, int packet, Set<Integer> set) {
            List<Set<Integer>> policy = checked(number, packet);
            Set<Integer> at = Set.of(packet);
            for (int times = 0; times < 200; times++) {
                for (int one : at) {
                    if (set.contains(one)) {
                        return times;
                    }
                }
                at = give(policy, at);
            }
            return -1;
        }

        int number(int what) {
            if (what != 0 && what != 1) {
                throw new IllegalArgumentException();
            }
            return what == 0 ? kinds.size() : new HashSet<>(outcomes).size();
        }
    }
}
