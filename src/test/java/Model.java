import java.util.ArrayList;
import java.util.HashMap;
import java.util.HashSet;
import java.util.LinkedHashSet;
import java.util.List;
import java.util.Map;
import java.util.Set;
import java.util.TreeMap;

/**
 * The document once more, as slowly and literally as can be: secrets are texts, what a member
 * holds is a set of them, and what the intruder knows is sought anew each time it is asked.
 */
final class Model {
    static final int INDEX = -1001;
    static final int STATE = -1002;
    private static final String ZERO = "ZERO";

    private static final class Tree {
        int depth;
        Map<Integer, String> keys = new TreeMap<>();
        Map<Integer, Integer> since = new TreeMap<>();
        Map<Integer, Set<Integer>> unmerged = new TreeMap<>();
        Map<Integer, Integer> dwellers = new TreeMap<>();

        Tree copy() {
            Tree t = new Tree();
            t.depth = depth;
            t.keys.putAll(keys);
            t.since.putAll(since);
            for (Map.Entry<Integer, Set<Integer>> e : unmerged.entrySet()) {
                t.unmerged.put(e.getKey(), new LinkedHashSet<>(e.getValue()));
            }
            t.dwellers.putAll(dwellers);
            return t;
        }

        int last() {
            return (int) Math.pow(2, depth + 1) - 2;
        }

        static int height(int node) {
            String binary = Integer.toBinaryString(node);
            int ones = 0;
            while (ones < binary.length() && binary.charAt(binary.length() - 1 - ones) == '1') {
                ones++;
            }
            return ones;
        }

        static int left(int node) {
            return node - (int) Math.pow(2, height(node) - 1);
        }

        static int right(int node) {
            return node + (int) Math.pow(2, height(node) - 1);
        }

        List<Integer> path(int leaf) {
            List<Integer> path = new ArrayList<>();
            int node = 2 * leaf;
            boolean found = true;
            while (found) {
                found = false;
                for (int above = 0; above <= last() && !found; above++) {
                    if (height(above) > 0 && (left(above) == node || right(above) == node)) {
                        node = above;
                        path.add(node);
                        found = true;
                    }
                }
            }
            return path;
        }

        void blank(int node) {
            keys.remove(node);
            since.remove(node);
            unmerged.remove(node);
        }

        void set(int node, String key, int epoch) {
            blank(node);
            keys.put(node, key);
            since.put(node, epoch);
        }

        Set<Integer> resolution(int node) {
            Set<Integer> all = new LinkedHashSet<>();
            if (keys.containsKey(node)) {
                all.add(node);
                for (int leaf : unmerged.getOrDefault(node, Set.of())) {
                    all.add(2 * leaf);
                }
            } else if (height(node) > 0) {
                all.addAll(resolution(left(node)));
                all.addAll(resolution(right(node)));
            }
            return all;
        }
    }

    private static final class Epoch {
        Tree tree = new Tree();
        int committer = -1;
        String secret;
        Set<Integer> counting = new LinkedHashSet<>();
        Set<Integer> removed = new HashSet<>();
        Map<Integer, String> updated = new HashMap<>();
        Set<Integer> added = new HashSet<>();
        Map<Integer, Set<String>> encryptedFor = new HashMap<>();
        int encrypted;
        boolean path;
    }

    private static final class Member {
        int epoch = -1;
        int leaf = -1;
        int stuck;
        String secret;
        Map<Integer, String> keys = new HashMap<>();
        Set<String> updates = new LinkedHashSet<>();
    }

    private static final class Offer {
        int member;
        String first;
        String leafKey;
        int epoch = -1;
        int leaf = -1;
        boolean joined;
    }

    private record Proposal(String kind, int thing, String key) {
    }

    private final List<Epoch> epochs = new ArrayList<>();
    private final List<Member> members = new ArrayList<>();
    private final List<Offer> offers = new ArrayList<>();
    private List<Proposal> proposals = new ArrayList<>();
    /** Each rule: all but the last one known makes the last one known. */
    private final List<String[]> rules = new ArrayList<>();
    private final Set<String> intruder = new HashSet<>(Set.of(ZERO));
    private int fresh;

    Model() {
        for (int i = 0; i < 16; i++) {
            members.add(new Member());
        }
        Epoch first = new Epoch();
        first.secret = fresh();
        first.tree.set(0, fresh(), 0);
        first.tree.dwellers.put(0, 0);
        epochs.add(first);
        Member zero = members.get(0);
        zero.epoch = 0;
        zero.leaf = 0;
        zero.secret = first.secret;
        zero.keys.put(0, first.tree.keys.get(0));
    }

    private String fresh() {
        return "F" + fresh++;
    }

    private String of(String kind, String... from) {
        String name = kind + "(" + String.join(",", from) + ")";
        String[] rule = new String[from.length + 1];
        System.arraycopy(from, 0, rule, 0, from.length);
        rule[from.length] = name;
        rules.add(rule);
        return name;
    }

    private void encrypt(Epoch e, String key, String secret) {
        rules.add(new String[] {key, secret});
        e.encrypted++;
    }

    private void close() {
        boolean more = true;
        while (more) {
            more = false;
            for (String[] rule : rules) {
                boolean all = true;
                for (int i = 0; i < rule.length - 1; i++) {
                    all &= intruder.contains(rule[i]);
                }
                if (all && intruder.add(rule[rule.length - 1])) {
                    more = true;
                }
            }
        }
    }

    private int latest() {
        return epochs.size() - 1;
    }

    private boolean noMember(int m) {
        return m < 0 || m > 15;
    }

    int offer(int m) {
        if (noMember(m)) {
            return INDEX;
        }
        if (offers.size() == 60) {
            return STATE;
        }
        Offer o = new Offer();
        o.member = m;
        o.first = fresh();
        o.leafKey = fresh();
        offers.add(o);
        return offers.size() - 1;
    }

    private boolean mayNotPropose(int m) {
        return members.get(m).epoch != latest() || proposals.size() == 20;
    }

    int add(int m, int offered) {
        if (noMember(m) || offered < 0 || offered >= offers.size()) {
            return INDEX;
        }
        if (mayNotPropose(m)) {
            return STATE;
        }
        proposals.add(new Proposal("ADD", offered, null));
        return proposals.size();
    }

    int remove(int m, int leaf) {
        if (noMember(m) || leaf < 0 || leaf > 15) {
            return INDEX;
        }
        if (mayNotPropose(m)) {
            return STATE;
        }
        proposals.add(new Proposal("REMOVE", leaf, null));
        return proposals.size();
    }

    int update(int m) {
        if (noMember(m)) {
            return INDEX;
        }
        if (mayNotPropose(m)) {
            return STATE;
        }
        String key = fresh();
        members.get(m).updates.add(key);
        proposals.add(new Proposal("UPDATE", members.get(m).leaf, key));
        return proposals.size();
    }

    int commit(int m, boolean asked) {
        if (noMember(m)) {
            return INDEX;
        }
        Member committer = members.get(m);
        if (committer.epoch != latest() || epochs.size() == 60) {
            return STATE;
        }
        int number = epochs.size();
        Epoch e = new Epoch();
        e.tree = epochs.get(latest()).tree.copy();
        e.committer = committer.leaf;
        List<Offer> going = choose(e);
        change(e, going, number);
        e.path = asked || !e.removed.isEmpty() || !e.updated.isEmpty() || going.isEmpty();
        String c = ZERO;
        Map<Integer, String> secretOf = new HashMap<>();
        if (e.path) {
            c = path(e, number, secretOf);
        }
        String j = of("JOINER", of("INIT", epochs.get(latest()).secret), c);
        e.secret = of("EPOCH", j);
        for (Offer o : going) {
            encrypt(e, o.first, j);
            if (e.path) {
                for (int node : e.tree.path(o.leaf)) {
                    if (e.counting.contains(node)) {
                        encrypt(e, o.first, secretOf.get(node));
                        break;
                    }
                }
            }
        }
        Map<Integer, String> before = committer.keys;
        committer.keys = new HashMap<>();
        committer.keys.put(2 * e.committer, e.tree.keys.get(2 * e.committer));
        for (int node : e.tree.path(e.committer)) {
            if (e.counting.contains(node)) {
                committer.keys.put(node, e.tree.keys.get(node));
            } else if (before.containsKey(node) && e.tree.keys.containsKey(node)) {
                committer.keys.put(node, before.get(node));
            }
        }
        committer.epoch = number;
        committer.secret = e.secret;
        committer.updates.clear();
        epochs.add(e);
        proposals = new ArrayList<>();
        return number;
    }

    /** Which proposals go; nothing on the tree is changed but who dwells where. */
    private List<Offer> choose(Epoch e) {
        for (Proposal p : proposals) {
            if (p.kind.equals("REMOVE") && e.tree.keys.containsKey(2 * p.thing) && p.thing != e.committer) {
                e.removed.add(p.thing);
            }
        }
        for (Proposal p : proposals) {
            if (p.kind.equals("UPDATE") && p.thing != e.committer && !e.removed.contains(p.thing)) {
                e.updated.put(p.thing, p.key);
            }
        }
        Set<Integer> leftBehind = new HashSet<>(e.tree.dwellers.keySet());
        leftBehind.removeAll(e.removed);
        Set<Integer> seated = new HashSet<>();
        for (int leaf : leftBehind) {
            seated.add(e.tree.dwellers.get(leaf));
        }
        List<Offer> going = new ArrayList<>();
        for (Proposal p : proposals) {
            if (p.kind.equals("ADD")) {
                Offer o = offers.get(p.thing);
                Member m = members.get(o.member);
                boolean free = m.epoch == -1 || m.epoch == latest() && e.removed.contains(m.leaf);
                boolean room = leftBehind.size() + going.size() < 16;
                if (o.epoch == -1 && free && room && seated.add(o.member)) {
                    going.add(o);
                }
            }
        }
        return going;
    }

    private void change(Epoch e, List<Offer> going, int number) {
        Tree t = e.tree;
        for (int leaf : e.removed) {
            Member m = members.get(t.dwellers.remove(leaf));
            if (m.epoch == latest()) {
                forget(m);
            }
            t.blank(2 * leaf);
            t.path(leaf).forEach(t::blank);
        }
        while (t.depth > 0 && rightHalfIsBlank(t)) {
            for (int node = (t.last() / 2); node <= t.last(); node++) {
                t.blank(node);
            }
            t.depth--;
        }
        for (Map.Entry<Integer, String> u : e.updated.entrySet()) {
            t.set(2 * u.getKey(), u.getValue(), number);
            t.path(u.getKey()).forEach(t::blank);
        }
        for (Offer o : going) {
            int leaf = 0;
            while (t.keys.containsKey(2 * leaf)) {
                leaf++;
            }
            if (leaf == (int) Math.pow(2, t.depth)) {
                t.depth++;
            }
            t.set(2 * leaf, o.leafKey, number);
            t.dwellers.put(leaf, o.member);
            for (int node : t.path(leaf)) {
                if (t.keys.containsKey(node)) {
                    t.unmerged.computeIfAbsent(node, k -> new LinkedHashSet<>()).add(leaf);
                }
            }
            e.added.add(leaf);
            o.epoch = number;
            o.leaf = leaf;
        }
    }

    private static boolean rightHalfIsBlank(Tree t) {
        int leaves = (int) Math.pow(2, t.depth);
        for (int leaf = leaves / 2; leaf < leaves; leaf++) {
            if (t.keys.containsKey(2 * leaf)) {
                return false;
            }
        }
        return true;
    }

    private String path(Epoch e, int number, Map<Integer, String> secretOf) {
        Tree t = e.tree;
        t.set(2 * e.committer, fresh(), number);
        List<Integer> path = t.path(e.committer);
        String last = null;
        int below = 2 * e.committer;
        for (int node : path) {
            int beside = Tree.left(node) == below ? Tree.right(node) : Tree.left(node);
            below = node;
            Set<Integer> resolution = t.resolution(beside);
            t.blank(node);
            if (resolution.isEmpty()) {
                continue;
            }
            last = last == null ? fresh() : of("NEXT", last);
            secretOf.put(node, last);
            e.counting.add(node);
            t.set(node, of("KEY", last), number);
            Set<String> readers = new HashSet<>();
            for (int n : resolution) {
                if (!(n % 2 == 0 && e.added.contains(n / 2))) {
                    encrypt(e, t.keys.get(n), last);
                    readers.add(t.keys.get(n));
                }
            }
            e.encryptedFor.put(node, readers);
        }
        return last == null ? fresh() : of("NEXT", last);
    }

    private static void forget(Member m) {
        m.epoch = -1;
        m.leaf = -1;
        m.secret = null;
        m.keys.clear();
        m.updates.clear();
    }

    int come(int number) {
        if (noMember(number)) {
            return INDEX;
        }
        Member m = members.get(number);
        if (m.epoch == -1) {
            return join(number, m);
        }
        if (m.epoch == latest()) {
            return STATE;
        }
        Epoch e = epochs.get(m.epoch + 1);
        if (e.removed.contains(m.leaf)) {
            forget(m);
            return -1;
        }
        Map<Integer, String> before = new HashMap<>(m.keys);
        if (e.updated.containsKey(m.leaf)) {
            before.put(2 * m.leaf, e.updated.get(m.leaf));
        }
        Map<Integer, String> now = new HashMap<>();
        now.put(2 * m.leaf, before.get(2 * m.leaf));
        for (int node : e.tree.path(m.leaf)) {
            if (before.containsKey(node) && before.get(node).equals(e.tree.keys.get(node))) {
                now.put(node, before.get(node));
            }
        }
        boolean isStuck = false;
        if (e.path) {
            List<Integer> mine = new ArrayList<>(e.tree.path(m.leaf));
            mine.retainAll(e.counting);
            Set<String> readers = new HashSet<>(e.encryptedFor.get(mine.get(0)));
            readers.retainAll(before.values());
            isStuck = readers.isEmpty();
            if (isStuck) {
                m.stuck++;
            } else {
                mine.forEach(node -> now.put(node, e.tree.keys.get(node)));
            }
        }
        m.secret = m.secret != null && !isStuck ? e.secret : null;
        m.keys = now;
        m.updates.clear();
        m.epoch++;
        return m.epoch;
    }

    private int join(int number, Member m) {
        Offer best = null;
        for (Offer o : offers) {
            if (o.member == number && o.epoch != -1 && !o.joined && (best == null || o.epoch < best.epoch)) {
                best = o;
            }
        }
        if (best == null) {
            return STATE;
        }
        best.joined = true;
        Epoch e = epochs.get(best.epoch);
        m.epoch = best.epoch;
        m.leaf = best.leaf;
        m.secret = e.secret;
        m.keys.put(2 * m.leaf, best.leafKey);
        for (int node : e.tree.path(m.leaf)) {
            if (e.counting.contains(node)) {
                m.keys.put(node, e.tree.keys.get(node));
            }
        }
        return m.epoch;
    }

    private Set<String> held(int number) {
        Member m = members.get(number);
        Set<String> all = new HashSet<>(m.keys.values());
        all.addAll(m.updates);
        if (m.secret != null) {
            all.add(m.secret);
        }
        for (Offer o : offers) {
            if (o.member == number && !o.joined) {
                all.add(o.first);
                all.add(o.leafKey);
            }
        }
        return all;
    }

    int compromise(int number) {
        if (noMember(number)) {
            return INDEX;
        }
        intruder.addAll(held(number));
        return held(number).size();
    }

    int member(int number, int what) {
        if (noMember(number) || what < 0 || what > 3) {
            return -1;
        }
        Member m = members.get(number);
        return List.of(m.epoch, m.leaf, held(number).size(), m.stuck).get(what);
    }

    int holds(int number, int node) {
        if (noMember(number) || members.get(number).epoch == -1) {
            return 0;
        }
        String key = epochs.get(members.get(number).epoch).tree.keys.get(node);
        return key != null && held(number).contains(key) ? 1 : 0;
    }

    int has(int number) {
        return !noMember(number) && members.get(number).secret != null ? 1 : 0;
    }

    private boolean noEpoch(int number) {
        return number < 0 || number > latest();
    }

    int node(int number, int node, int what) {
        if (noEpoch(number) || node < 0 || node > epochs.get(number).tree.last() || what < 0 || what > 3) {
            return -1;
        }
        Tree t = epochs.get(number).tree;
        return List.of(t.keys.containsKey(node) ? 1 : 0, bits(t.unmerged.getOrDefault(node, Set.of())),
            t.since.getOrDefault(node, -1), t.resolution(node).size()).get(what);
    }

    int epoch(int number, int what) {
        if (noEpoch(number) || what < 0 || what > 6) {
            return -1;
        }
        Epoch e = epochs.get(number);
        return List.of(e.tree.depth, e.committer, bits(e.counting), bits(e.removed), bits(e.updated.keySet()),
            bits(e.added), e.encrypted).get(what);
    }

    private static int bits(Set<Integer> set) {
        int bits = 0;
        for (int i : set) {
            bits += (int) Math.pow(2, i);
        }
        return bits;
    }

    int epochs() {
        return epochs.size();
    }

    int waiting() {
        return proposals.size();
    }

    int isKnown(int number) {
        close();
        return !noEpoch(number) && intruder.contains(epochs.get(number).secret) ? 1 : 0;
    }

    int isOpen(int number, int node) {
        close();
        return !noEpoch(number) && intruder.contains(String.valueOf(epochs.get(number).tree.keys.get(node))) ? 1 : 0;
    }

    int known() {
        int count = 0;
        for (int i = 0; i < epochs.size(); i++) {
            count += isKnown(i);
        }
        return count;
    }
}
