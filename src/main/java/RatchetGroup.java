import java.util.ArrayList;
import java.util.Arrays;

/** The keys of a group in a tree, epoch by epoch, and what an intruder knows of them. */
public final class RatchetGroup {
    public static final int NONE = -1;

    private static final int MEMBERS = 16;
    private static final int LEAVES = 16;
    private static final int NODES = 31;
    private static final int DEEPEST = 4;
    private static final int MOST_PACKAGES = 60;
    private static final int MOST_EPOCHS = 60;
    private static final int MOST_WAITING = 20;

    /** The secret that all know. */
    private static final int ZERO = 0;
    // ZERO and two at the start, two a package, one a proposal, and thirteen a commit: under 2,100.
    private static final int MOST_SECRETS = 2200;
    // A commit encrypts at most 30 times and derives at most 12 ways: under 42 times 59.
    private static final int MOST_WAYS = 2600;
    // A secret of an epoch, a key a node, the updates, and two keys a package.
    private static final int MOST_HELD = 1 + NODES + MOST_WAITING + 2 * MOST_PACKAGES;

    private final Secrets secrets;
    private final ArrayList<Member> members;
    private final ArrayList<KeyPackage> packages;
    private final ArrayList<Proposal> proposals;
    private final ArrayList<Epoch> epochs;
    /** Filled anew by gather(), so that no call needs a row of its own. */
    private final Row held;
    private Epoch latest;

    public RatchetGroup() {
        secrets = new Secrets();
        members = new ArrayList<>();
        packages = new ArrayList<>();
        proposals = new ArrayList<>();
        epochs = new ArrayList<>();
        held = new Row(MOST_HELD, NONE);
        Member founder = new Member(0);
        members.add(founder);
        for (int number = 1; number < MEMBERS; number++) {
            members.add(new Member(number));
        }
        latest = new Epoch(0, NONE);
        latest.secret = secrets.fresh();
        latest.tree.seat(0, founder.number, secrets.fresh(), 0);
        epochs.add(latest);
        founder.enter(latest, 0);
    }

    public int offer(int member) throws IndexOutOfBoundsException, IllegalStateException {
        Member owner = memberNumbered(member);
        if (packages.size() >= MOST_PACKAGES) {
            throw new IllegalStateException("there are 60 packages");
        }
        int firstKey = secrets.fresh();
        packages.add(new KeyPackage(owner, firstKey, secrets.fresh()));
        return packages.size() - 1;
    }

    public int add(int member, int offered) throws IndexOutOfBoundsException, IllegalStateException {
        Member proposer = memberNumbered(member);
        if (offered < 0 || offered >= packages.size()) {
            throw new IndexOutOfBoundsException("no such package");
        }
        refuseUnlessMayPropose(proposer);
        proposals.add(new Addition(packages.get(offered)));
        return proposals.size();
    }

    public int remove(int member, int leaf) throws IndexOutOfBoundsException, IllegalStateException {
        Member proposer = memberNumbered(member);
        if (leaf < 0 || leaf >= LEAVES) {
            throw new IndexOutOfBoundsException("no such leaf");
        }
        refuseUnlessMayPropose(proposer);
        proposals.add(new Removal(leaf));
        return proposals.size();
    }

    public int update(int member) throws IndexOutOfBoundsException, IllegalStateException {
        Member proposer = memberNumbered(member);
        refuseUnlessMayPropose(proposer);
        int key = secrets.fresh();
        proposer.keepUpdate(key);
        proposals.add(new Renewal(proposer.leaf, key));
        return proposals.size();
    }

    public int commit(int member, boolean path) throws IndexOutOfBoundsException, IllegalStateException {
        Member committer = memberNumbered(member);
        if (committer.epoch != latest.number) {
            throw new IllegalStateException("the member is not in the latest epoch");
        }
        if (epochs.size() >= MOST_EPOCHS) {
            throw new IllegalStateException("there are 60 epochs");
        }
        Epoch next = new Epoch(epochs.size(), committer.leaf);
        next.tree.copy(latest.tree);
        applyRemovals(next);
        applyRenewals(next);
        applyAdditions(next);
        int last = next.needsPath(path) ? next.layPath(secrets) : ZERO;
        int joiner = secrets.joinerOf(secrets.derivedFrom(latest.secret), last);
        next.secret = secrets.derivedFrom(joiner);
        welcomeAdded(next, joiner);
        proposals.clear();
        epochs.add(next);
        latest = next;
        committer.lead(next);
        secrets.settle();
        return next.number;
    }

    public int come(int member) throws IndexOutOfBoundsException, IllegalStateException {
        Member comer = memberNumbered(member);
        if (comer.epoch == NONE) {
            joinEarliest(comer);
        } else {
            moveOn(comer);
        }
        return comer.epoch;
    }

    public int compromise(int member) throws IndexOutOfBoundsException {
        int count = gather(memberNumbered(member));
        for (int i = 0; i < count; i++) {
            secrets.tell(held.get(i));
        }
        secrets.settle();
        return count;
    }

    public int member(int member, int what) {
        if (!isMember(member)) {
            return NONE;
        }
        Member asked = members.get(member);
        switch (what) {
            case 0: return asked.epoch;
            case 1: return asked.leaf;
            case 2: return gather(asked);
            case 3: return asked.stuck;
            default: return NONE;
        }
    }

    public boolean holds(int member, int node) {
        if (!isMember(member)) {
            return false;
        }
        Member asked = members.get(member);
        return isEpoch(asked.epoch) && asked.holdsKeyIn(epochs.get(asked.epoch).tree, node);
    }

    public boolean has(int member) {
        return isMember(member) && members.get(member).hasSecret;
    }

    public int node(int epoch, int node, int what) {
        if (!isEpoch(epoch)) {
            return NONE;
        }
        Tree tree = epochs.get(epoch).tree;
        if (!tree.isThere(node)) {
            return NONE;
        }
        switch (what) {
            case 0: return tree.isBlank(node) ? 0 : 1;
            case 1: return tree.unmerged.get(node);
            case 2: return tree.since.get(node);
            case 3: return Integer.bitCount(tree.resolution(node));
            default: return NONE;
        }
    }

    public int epoch(int epoch, int what) {
        if (!isEpoch(epoch)) {
            return NONE;
        }
        Epoch asked = epochs.get(epoch);
        switch (what) {
            case 0: return asked.tree.depth;
            case 1: return asked.committerLeaf;
            case 2: return asked.counting;
            case 3: return asked.removed;
            case 4: return asked.updated;
            case 5: return asked.added;
            case 6: return asked.encrypted;
            default: return NONE;
        }
    }

    public int epochs() {
        return epochs.size();
    }

    public int waiting() {
        return proposals.size();
    }

    public boolean isKnown(int epoch) {
        return isEpoch(epoch) && secrets.isTold(epochs.get(epoch).secret);
    }

    public boolean isOpen(int epoch, int node) {
        return isEpoch(epoch) && secrets.isTold(epochs.get(epoch).tree.keys.get(node));
    }

    public int known() {
        int count = 0;
        for (int i = 0; i < epochs.size(); i++) {
            if (secrets.isTold(epochs.get(i).secret)) {
                count++;
            }
        }
        return count;
    }

    private boolean isMember(int number) {
        return number >= 0 && number < members.size();
    }

    private boolean isEpoch(int number) {
        return number >= 0 && number < epochs.size();
    }

    private Member memberNumbered(int number) {
        if (!isMember(number)) {
            throw new IndexOutOfBoundsException("no such member");
        }
        return members.get(number);
    }

    private void refuseUnlessMayPropose(Member proposer) {
        if (proposer.epoch != latest.number) {
            throw new IllegalStateException("the member is not in the latest epoch");
        }
        if (proposals.size() >= MOST_WAITING) {
            throw new IllegalStateException("20 proposals wait");
        }
    }

    private void applyRemovals(Epoch next) {
        for (int i = 0; i < proposals.size(); i++) {
            if (proposals.get(i) instanceof Removal removal) {
                removeLeaf(next, removal.leaf);
            }
        }
        next.tree.shrink();
    }

    private void removeLeaf(Epoch next, int leaf) {
        // A leaf that is not there is blank, and so is one of which a REMOVE went before.
        if (leaf == next.committerLeaf || next.tree.isBlank(Tree.nodeOver(leaf, 0))) {
            return;
        }
        next.tree.vacate(leaf);
        next.removed |= 1 << leaf;
        for (int i = 0; i < members.size(); i++) {
            Member removed = members.get(i);
            if (removed.epoch == latest.number && removed.leaf == leaf) {
                removed.leave();
            }
        }
    }

    private void applyRenewals(Epoch next) {
        for (int i = 0; i < proposals.size(); i++) {
            // The latest UPDATE of a leaf is the one that stays, since it is done last.
            if (proposals.get(i) instanceof Renewal renewal && next.lets(renewal)) {
                next.tree.renew(renewal.leaf, renewal.key, next.number);
                next.updated |= 1 << renewal.leaf;
            }
        }
    }

    private void applyAdditions(Epoch next) {
        for (int i = 0; i < proposals.size(); i++) {
            if (proposals.get(i) instanceof Addition addition) {
                addLeaf(next, addition.offered);
            }
        }
    }

    private void addLeaf(Epoch next, KeyPackage offered) {
        Member owner = offered.owner;
        // Who was removed from the latest epoch is in none by now, and who was added has a leaf.
        if (offered.isUsed() || owner.epoch != NONE || next.tree.seats(owner.number)) {
            return;
        }
        int leaf = next.tree.lowestFreeLeaf();
        if (leaf == NONE) {
            return;
        }
        next.tree.seat(leaf, owner.number, offered.leafKey, next.number);
        next.added |= 1 << leaf;
        offered.epoch = next.number;
        offered.leaf = leaf;
    }

    private void welcomeAdded(Epoch next, int joiner) {
        for (int i = 0; i < packages.size(); i++) {
            KeyPackage used = packages.get(i);
            if (used.epoch == next.number) {
                next.encrypt(secrets, used.firstKey, joiner);
                int height = next.lowestCountingOver(used.leaf);
                if (height != NONE) {
                    next.encrypt(secrets, used.firstKey, next.pathSecrets.get(height));
                }
            }
        }
    }

    private void joinEarliest(Member comer) {
        KeyPackage earliest = null;
        for (int i = 0; i < packages.size(); i++) {
            KeyPackage one = packages.get(i);
            boolean awaits = one.owner == comer && one.isUsed() && !one.joined;
            if (awaits && (earliest == null || one.epoch < earliest.epoch)) {
                earliest = one;
            }
        }
        if (earliest == null || !isEpoch(earliest.epoch)) {
            throw new IllegalStateException("the member is in no epoch and was not added");
        }
        earliest.joined = true;
        comer.enter(epochs.get(earliest.epoch), earliest.leaf);
    }

    private void moveOn(Member comer) {
        int number = comer.epoch + 1;
        if (!isEpoch(number)) {
            throw new IllegalStateException("the member is in the latest epoch");
        }
        Epoch next = epochs.get(number);
        if (isIn(next.removed, comer.leaf)) {
            comer.leave();
        } else {
            comer.follow(next);
        }
    }

    /** Fills held with what a member holds; no two are the same, since each key has one place. */
    private int gather(Member holder) {
        int count = 0;
        if (holder.hasSecret && isEpoch(holder.epoch)) {
            held.put(count++, epochs.get(holder.epoch).secret);
        }
        for (int node = 0; node < NODES; node++) {
            if (holder.keys.get(node) != NONE) {
                held.put(count++, holder.keys.get(node));
            }
        }
        for (int i = 0; i < holder.updateCount; i++) {
            held.put(count++, holder.updates.get(i));
        }
        for (int i = 0; i < packages.size(); i++) {
            KeyPackage one = packages.get(i);
            if (one.owner == holder && !one.joined) {
                held.put(count++, one.firstKey);
                held.put(count++, one.leafKey);
            }
        }
        return count;
    }

    private static boolean isIn(int bits, int index) {
        return index >= 0 && ((bits >>> index) & 1) != 0;
    }

    /** Numbers behind tested indices: no other class here touches an array. */
    private static final class Row {
        private final int[] cells;

        Row(int length, int filling) {
            cells = new int[length > 0 ? length : 0];
            Arrays.fill(cells, filling);
        }

        int get(int index) {
            return index >= 0 && index < cells.length ? cells[index] : NONE;
        }

        void put(int index, int value) {
            if (index >= 0 && index < cells.length) {
                cells[index] = value;
            }
        }

        void fill(int value) {
            Arrays.fill(cells, value);
        }

        void copy(Row other) {
            for (int i = 0; i < cells.length; i++) {
                cells[i] = other.get(i);
            }
        }
    }

    /**
     * The names of the secrets, and the ways from one to another that the intruder can go.
     * A way leads from one secret to the next for who knows a second one, too; where nothing
     * more is needed, the second one is ZERO.
     */
    private static final class Secrets {
        private final Row told = new Row(MOST_SECRETS, 0);
        private final Row firstWay = new Row(MOST_SECRETS, NONE);
        private final Row nextWay = new Row(MOST_WAYS, NONE);
        private final Row wayTo = new Row(MOST_WAYS, NONE);
        private final Row wayWith = new Row(MOST_WAYS, NONE);
        /** What was told, in order: all before 'followed' have had their ways gone. */
        private final Row inOrder = new Row(MOST_SECRETS, NONE);
        private int count = 1;
        private int ways = 0;
        private int toldCount = 0;
        private int followed = 0;

        Secrets() {
            told.put(ZERO, 1);
        }

        int fresh() {
            if (count >= MOST_SECRETS) {
                return NONE;
            }
            return count++;
        }

        int derivedFrom(int secret) {
            int derived = fresh();
            openWay(secret, ZERO, derived);
            return derived;
        }

        int joinerOf(int init, int last) {
            int joiner = fresh();
            // The intruder may come to know the two in either order.
            openWay(init, last, joiner);
            openWay(last, init, joiner);
            return joiner;
        }

        boolean isTold(int secret) {
            return told.get(secret) == 1;
        }

        /** What can be had from it is told by settle(), once for all that a call tells. */
        void tell(int secret) {
            if (secret >= 0 && secret < count && told.get(secret) == 0) {
                told.put(secret, 1);
                inOrder.put(toldCount, secret);
                toldCount++;
            }
        }

        void settle() {
            for (; followed < toldCount && followed < MOST_SECRETS; followed++) {
                followWays(inOrder.get(followed));
            }
        }

        void openWay(int from, int with, int to) {
            if (ways >= MOST_WAYS) {
                return;
            }
            wayTo.put(ways, to);
            wayWith.put(ways, with);
            nextWay.put(ways, firstWay.get(from));
            firstWay.put(from, ways);
            ways++;
            if (isTold(from) && isTold(with)) {
                tell(to);
            }
        }

        private void followWays(int secret) {
            int way = firstWay.get(secret);
            for (int gone = 0; gone < ways && way != NONE; gone++) {
                if (isTold(wayWith.get(way))) {
                    tell(wayTo.get(way));
                }
                way = nextWay.get(way);
            }
        }
    }

    /** One epoch's tree. What lies outside of it is blank, so that it can grow at once. */
    private static final class Tree {
        final Row keys = new Row(NODES, NONE);
        final Row unmerged = new Row(NODES, 0);
        final Row since = new Row(NODES, NONE);
        private final Row dwellers = new Row(LEAVES, NONE);
        int depth = 0;

        static int nodeOver(int leaf, int height) {
            return ((leaf >> height) << (height + 1)) + (1 << height) - 1;
        }

        static int heightOf(int node) {
            int height = 0;
            while (height < DEEPEST && isIn(node, height)) {
                height++;
            }
            return height;
        }

        static int nodesOfLeaves(int leaves) {
            int nodes = 0;
            for (int leaf = 0; leaf < LEAVES; leaf++) {
                nodes |= ((leaves >>> leaf) & 1) << (2 * leaf);
            }
            return nodes;
        }

        void copy(Tree other) {
            depth = other.depth;
            keys.copy(other.keys);
            unmerged.copy(other.unmerged);
            since.copy(other.since);
            dwellers.copy(other.dwellers);
        }

        boolean isThere(int node) {
            return node >= 0 && node < (2 << depth) - 1;
        }

        boolean isBlank(int node) {
            return keys.get(node) == NONE;
        }

        void give(int node, int key, int epoch) {
            keys.put(node, key);
            unmerged.put(node, 0);
            since.put(node, epoch);
        }

        void blank(int node) {
            give(node, NONE, NONE);
        }

        void vacate(int leaf) {
            dwellers.put(leaf, NONE);
            blankWithPath(leaf);
        }

        void renew(int leaf, int key, int epoch) {
            blankWithPath(leaf);
            give(nodeOver(leaf, 0), key, epoch);
        }

        private void blankWithPath(int leaf) {
            for (int height = 0; height <= depth; height++) {
                give(nodeOver(leaf, height), NONE, NONE);
            }
        }

        void shrink() {
            while (depth > 0 && isRightHalfBlank()) {
                blank((1 << depth) - 1);
                depth--;
            }
        }

        private boolean isRightHalfBlank() {
            for (int leaf = 1 << (depth - 1); leaf < (1 << depth); leaf++) {
                if (!isBlank(nodeOver(leaf, 0))) {
                    return false;
                }
            }
            return true;
        }

        boolean seats(int member) {
            for (int leaf = 0; leaf < LEAVES; leaf++) {
                if (dwellers.get(leaf) == member) {
                    return true;
                }
            }
            return false;
        }

        int lowestFreeLeaf() {
            for (int leaf = 0; leaf < LEAVES; leaf++) {
                if (isBlank(nodeOver(leaf, 0))) {
                    return leaf;
                }
            }
            return NONE;
        }

        void seat(int leaf, int member, int key, int epoch) {
            while (depth < DEEPEST && leaf >= (1 << depth)) {
                depth++;
            }
            dwellers.put(leaf, member);
            give(nodeOver(leaf, 0), key, epoch);
            for (int height = 1; height <= depth; height++) {
                int node = nodeOver(leaf, height);
                if (!isBlank(node)) {
                    unmerged.put(node, unmerged.get(node) | (1 << leaf));
                }
            }
        }

        /** The nodes of a resolution, as bits. */
        int resolution(int node) {
            return resolutionFrom(node, heightOf(node));
        }

        private int resolutionFrom(int node, int height) {
            if (keys.get(node) != NONE) {
                return (1 << node) | nodesOfLeaves(unmerged.get(node));
            }
            if (height <= 0) {
                return 0;
            }
            int below = height - 1;
            int step = 1 << below;
            return resolutionFrom(node - step, below) | resolutionFrom(node + step, below);
        }
    }

    /** What a commit made: its tree, and what was told with it. */
    private static final class Epoch {
        final int number;
        final int committerLeaf;
        final Tree tree = new Tree();
        /** By the height of the node; of heights that do not count, NONE. */
        final Row pathSecrets = new Row(DEEPEST + 1, NONE);
        int secret = NONE;
        int counting = 0;
        int removed = 0;
        int updated = 0;
        int added = 0;
        int encrypted = 0;

        Epoch(int number, int committerLeaf) {
            this.number = number;
            this.committerLeaf = committerLeaf;
        }

        boolean lets(Renewal renewal) {
            return renewal.leaf != committerLeaf && !isIn(removed, renewal.leaf);
        }

        boolean needsPath(boolean asked) {
            return asked || (removed | updated) != 0 || added == 0;
        }

        /** Makes the committer's path new, and answers what the epoch's secret takes from it. */
        int layPath(Secrets secrets) {
            tree.give(Tree.nodeOver(committerLeaf, 0), secrets.fresh(), number);
            int last = NONE;
            for (int height = 1; height <= tree.depth; height++) {
                int node = Tree.nodeOver(committerLeaf, height);
                if (tree.resolution(nodeBesidePath(height)) == 0) {
                    tree.blank(node);
                } else {
                    last = last == NONE ? secrets.fresh() : secrets.derivedFrom(last);
                    counting |= 1 << node;
                    pathSecrets.put(height, last);
                    tree.give(node, secrets.derivedFrom(last), number);
                    encryptPathSecret(secrets, height);
                }
            }
            return last == NONE ? secrets.fresh() : secrets.derivedFrom(last);
        }

        private void encryptPathSecret(Secrets secrets, int height) {
            int readers = readersOf(height);
            for (int node = 0; node < NODES; node++) {
                if (isIn(readers, node)) {
                    encrypt(secrets, tree.keys.get(node), pathSecrets.get(height));
                }
            }
        }

        void encrypt(Secrets secrets, int key, int what) {
            secrets.openWay(key, ZERO, what);
            encrypted++;
        }

        /** The nodes for whose keys the path secret of that height was encrypted, as bits. */
        int readersOf(int height) {
            return tree.resolution(nodeBesidePath(height)) & ~Tree.nodesOfLeaves(added);
        }

        /** Of the two below the path's node of that height, the one that is off the path. */
        private int nodeBesidePath(int height) {
            int below = height - 1;
            return Tree.nodeOver(committerLeaf ^ (1 << below), below);
        }

        int lowestCountingOver(int leaf) {
            for (int height = 1; height <= tree.depth; height++) {
                if (isIn(counting, Tree.nodeOver(leaf, height))) {
                    return height;
                }
            }
            return NONE;
        }
    }

    private static final class Member {
        final int number;
        final Row keys = new Row(NODES, NONE);
        final Row updates = new Row(MOST_WAITING, NONE);
        int updateCount = 0;
        int epoch = NONE;
        int leaf = NONE;
        boolean hasSecret = false;
        int stuck = 0;

        Member(int number) {
            this.number = number;
        }

        void keepUpdate(int key) {
            if (updateCount < MOST_WAITING) {
                updates.put(updateCount, key);
                updateCount++;
            }
        }

        boolean holdsKeyIn(Tree tree, int node) {
            int key = tree.keys.get(node);
            return key != NONE && keys.get(node) == key;
        }

        void leave() {
            epoch = NONE;
            leaf = NONE;
            hasSecret = false;
            updateCount = 0;
            keys.fill(NONE);
        }

        /** Takes its place in an epoch that it does not come to from another one. */
        void enter(Epoch opened, int itsLeaf) {
            leaf = itsLeaf;
            lead(opened);
        }

        /** Is in an epoch all of whose new keys over its leaf it has from the start. */
        void lead(Epoch opened) {
            epoch = opened.number;
            hasSecret = true;
            updateCount = 0;
            dropStaleKeys(opened.tree);
            takeKey(opened.tree, Tree.nodeOver(leaf, 0));
            takeCountingKeys(opened);
        }

        /** Comes to the epoch behind its own, in which it was not removed. */
        void follow(Epoch next) {
            epoch = next.number;
            updateCount = 0;
            if (isIn(next.updated, leaf)) {
                takeKey(next.tree, Tree.nodeOver(leaf, 0));
            }
            dropStaleKeys(next.tree);
            int height = next.lowestCountingOver(leaf);
            if (height == NONE) {
                return;
            }
            if (holdsOneOf(next.readersOf(height), next.tree)) {
                takeCountingKeys(next);
            } else {
                stuck++;
                hasSecret = false;
            }
        }

        private boolean holdsOneOf(int nodes, Tree tree) {
            for (int node = 0; node < NODES; node++) {
                if (isIn(nodes, node) && holdsKeyIn(tree, node)) {
                    return true;
                }
            }
            return false;
        }

        private void dropStaleKeys(Tree tree) {
            for (int node = 0; node < NODES; node++) {
                if (!holdsKeyIn(tree, node)) {
                    keys.put(node, NONE);
                }
            }
        }

        private void takeCountingKeys(Epoch from) {
            for (int height = 1; height <= from.tree.depth; height++) {
                int node = Tree.nodeOver(leaf, height);
                if (isIn(from.counting, node)) {
                    takeKey(from.tree, node);
                }
            }
        }

        private void takeKey(Tree tree, int node) {
            keys.put(node, tree.keys.get(node));
        }
    }

    /** Two keys by which a member may join, and the epoch and leaf that it was added at. */
    private static final class KeyPackage {
        final Member owner;
        final int firstKey;
        final int leafKey;
        int epoch = NONE;
        int leaf = NONE;
        boolean joined = false;

        KeyPackage(Member owner, int firstKey, int leafKey) {
            this.owner = owner;
            this.firstKey = firstKey;
            this.leafKey = leafKey;
        }

        boolean isUsed() {
            return epoch != NONE;
        }
    }

    private interface Proposal {
    }

    private static final class Addition implements Proposal {
        final KeyPackage offered;

        Addition(KeyPackage offered) {
            this.offered = offered;
        }
    }

    private static final class Removal implements Proposal {
        final int leaf;

        Removal(int leaf) {
            this.leaf = leaf;
        }
    }

    private static final class Renewal implements Proposal {
        final int leaf;
        final int key;

        Renewal(int leaf, int key) {
            this.leaf = leaf;
            this.key = key;
        }
    }
}
