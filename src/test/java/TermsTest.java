/** The sentences of the terms that name no boundary, each with a group worked out by hand. */
public final class TermsTest {
    private static final Check CHECK = new Check();

    public static void main(String[] args) {
        allKnowZero();
        leavesAndTheOthers();
        pathToTheTop();
        knownBelowAlone();
        removedPathHasNothingUnmerged();
        updatedPathHasNothingUnmerged();
        whatAMemberHolds();
        packages();
        firstKeyAndLeafKey();
        proposalsForTheLatestEpoch();
        updateIsFresh();
        proposalsInOrder();
        packageIsUsed();
        removedWithItsPath();
        committersLeafIsFresh();
        pathSecretsFromTheLowestOn();
        joinerNeedsBoth();
        committerIsInTheNewEpoch();
        comersAreToldFromTheLowestOn();
        joinersHold();
        CHECK.finish();
    }

    private static void allKnowZero() {
        CHECK.sentence("all know ZERO");
        RatchetGroup x = Groups.of(2);
        x.compromise(1);
        CHECK.known(x, 1);
        x.add(0, x.offer(2));
        x.commit(0, false);
        CHECK.known(x, 1, 2);
        x.come(1);
        x.commit(1, true);
        CHECK.known(x, 1, 2);
    }

    private static void leavesAndTheOthers() {
        CHECK.sentence("leaf i is node 2 i, the others lie between");
        RatchetGroup x = Groups.of(16);
        for (int m = 0; m < 16; m++) {
            CHECK.member(x, m, 1, m);
            for (int leaf = 0; leaf < 16; leaf++) {
                CHECK.same("holds(" + m + ", " + 2 * leaf + ")", x.holds(m, 2 * leaf) ? 1 : 0, leaf == m ? 1 : 0);
            }
        }
    }

    private static void pathToTheTop() {
        CHECK.sentence("A node's PATH are the nodes above it, from the lowest to the top.");
        RatchetGroup x = Groups.of(8);
        x.commit(5, true);
        CHECK.epoch(x, 2, 3, 5, 1 << 9 | 1 << 11 | 1 << 7, 0, 0, 0);
    }

    /** Eight members, each of whom has committed with a path, all in epoch 9: no node is blank. */
    private static RatchetGroup fullOfKeys() {
        RatchetGroup x = Groups.of(8);
        for (int committer = 0; committer < 8; committer++) {
            x.commit(committer, true);
            for (int m = 0; m < 8; m++) {
                if (m != committer) {
                    x.come(m);
                }
            }
        }
        return x;
    }

    private static void knownBelowAlone() {
        CHECK.sentence("a secret that is to be known below it alone");
        RatchetGroup x = fullOfKeys();
        int[] overLeaf = {1 << 1 | 1 << 3, 1 << 5 | 1 << 3, 1 << 9 | 1 << 11, 1 << 13 | 1 << 11};
        for (int m = 0; m < 8; m++) {
            CHECK.member(x, m, 9, m, 5, 0);
            CHECK.holdsJust(x, m, 1 << 2 * m | overLeaf[m / 2] | 1 << 7);
        }
    }

    /** Leaf 7 is unmerged in node 11, which is over leaves 4 .. 7 and got its key by member 4. */
    private static RatchetGroup withAnUnmergedLeaf() {
        CHECK.sentence("Each node is BLANK, or has a KEY, a secret that is to be known below it alone; "
            + "one that is no leaf has a set of UNMERGED leaves, too.");
        RatchetGroup x = Groups.of(7);
        x.commit(4, true);
        Groups.allCome(x, 0, 1, 2, 3, 5, 6);
        x.add(0, x.offer(7));
        x.commit(0, false);
        CHECK.node(x, 3, 7, 1, 1 << 7, 2, 2);
        CHECK.node(x, 3, 11, 1, 1 << 7, 2, 2);
        CHECK.node(x, 3, 13, 0, 0, -1, 2);
        CHECK.node(x, 3, 14, 1, 0, 3, 1);
        return x;
    }

    private static void removedPathHasNothingUnmerged() {
        RatchetGroup x = withAnUnmergedLeaf();
        x.remove(0, 4);
        x.commit(0, false);
        CHECK.node(x, 4, 7, 1, 0, 4, 1);
        CHECK.node(x, 4, 11, 0, 0, -1, 3);
        CHECK.node(x, 3, 11, 1, 1 << 7, 2, 2);
        Groups.allCome(x, 6, 6);
        x.commit(6, true);
        CHECK.node(x, 5, 11, 1, 0, 5, 1);
    }

    private static void updatedPathHasNothingUnmerged() {
        RatchetGroup x = withAnUnmergedLeaf();
        x.come(5);
        x.update(5);
        x.commit(0, false);
        CHECK.node(x, 4, 7, 1, 0, 4, 1);
        CHECK.node(x, 4, 9, 0, 0, -1, 2);
        CHECK.node(x, 4, 11, 0, 0, -1, 4);
        CHECK.node(x, 3, 11, 1, 1 << 7, 2, 2);
    }

    private static void whatAMemberHolds() {
        CHECK.sentence("A MEMBER is in an epoch, at a leaf, or in none. It HOLDS the secret of its epoch, "
            + "the keys of nodes that it was told (of its leaf, and of nodes of its path),");
        RatchetGroup x = Groups.of(4);
        CHECK.member(x, 0, 1, 0, 4, 0);
        CHECK.holdsJust(x, 0, 1 | 1 << 1 | 1 << 3);
        CHECK.member(x, 3, 1, 3, 3, 0);
        CHECK.holdsJust(x, 3, 1 << 6 | 1 << 3);
        CHECK.member(x, 9, -1, -1, 0, 0);
        CHECK.holdsJust(x, 9, 0);
    }

    private static void packages() {
        CHECK.sentence("A PACKAGE is made by a member for joining: two FRESH secrets, first key, then leaf key. "
            + "Packages are numbered from 0 on.");
        RatchetGroup x = new RatchetGroup();
        int[] owners = {3, 9, 3, 0};
        for (int i = 0; i < owners.length; i++) {
            CHECK.same("offer(" + owners[i] + ")", x.offer(owners[i]), i);
        }
        CHECK.member(x, 3, -1, -1, 4, 0);
        CHECK.member(x, 9, -1, -1, 2, 0);
        CHECK.member(x, 0, 0, 0, 4, 0);
        CHECK.same("compromise(3)", x.compromise(3), 4);
    }

    private static void firstKeyAndLeafKey() {
        CHECK.sentence("the package's first key is dropped");
        RatchetGroup x = Groups.of(2);
        x.commit(0, true);
        x.come(1);
        x.compromise(1);
        // The leaf key does not open what the first key did.
        CHECK.known(x, 2);
        CHECK.openJust(x, 1, 1 << 2);
        CHECK.openJust(x, 2, 1 << 2 | 1 << 1);
    }

    private static void proposalsForTheLatestEpoch() {
        CHECK.sentence("PROPOSALS are made for the latest epoch, by members that are in it");
        RatchetGroup x = Groups.of(3);
        int offered = x.offer(5);
        x.commit(0, true);
        CHECK.refusedState(x, "add(1, offered)", () -> x.add(1, offered));
        CHECK.refusedState(x, "remove(1, 2)", () -> x.remove(1, 2));
        CHECK.refusedState(x, "update(1)", () -> x.update(1));
        x.come(1);
        CHECK.same("add(1, offered)", x.add(1, offered), 1);
        CHECK.same("remove(1, 2)", x.remove(1, 2), 2);
        CHECK.same("update(1)", x.update(1), 3);
    }

    private static void updateIsFresh() {
        CHECK.sentence("UPDATE: a FRESH secret for the leaf of who proposes it.");
        RatchetGroup before = Groups.of(3);
        before.compromise(1);
        before.update(1);
        before.commit(0, false);
        CHECK.epoch(before, 2, 2, 0, 1 << 1 | 1 << 3, 0, 1 << 1, 0, 2);
        CHECK.known(before, 1);
        CHECK.openJust(before, 2, 0);
        RatchetGroup after = Groups.of(3);
        after.update(1);
        CHECK.member(after, 1, 1, 1, 5, 0);
        after.compromise(1);
        after.commit(0, false);
        CHECK.known(after, 1, 2);
        CHECK.openJust(after, 2, 1 << 2 | 1 << 1 | 1 << 3);
    }

    private static void proposalsInOrder() {
        CHECK.sentence("of the proposals, in order, those GO that can");
        RatchetGroup x = new RatchetGroup();
        int ofFive = x.offer(5);
        int ofThree = x.offer(3);
        x.add(0, ofThree);
        x.add(0, ofFive);
        x.commit(0, true);
        Groups.allCome(x, 5, 3);
        CHECK.member(x, 3, 1, 1);
        CHECK.member(x, 5, 1, 2);
    }

    private static void packageIsUsed() {
        CHECK.sentence("The package is used.");
        RatchetGroup x = new RatchetGroup();
        int first = x.offer(4);
        int second = x.offer(4);
        x.add(0, second);
        x.add(0, first);
        x.commit(0, true);
        x.remove(0, 1);
        x.commit(0, true);
        x.add(0, second);
        x.commit(0, true);
        CHECK.epoch(x, 3, 0, 0, 0, 0, 0, 0, 0);
        x.add(0, first);
        x.commit(0, true);
        CHECK.epoch(x, 4, 1, 0, 1 << 1, 0, 0, 1 << 1, 2);
    }

    private static void removedWithItsPath() {
        CHECK.sentence("all REMOVEs: the leaf is blank, with its path");
        RatchetGroup x = fullOfKeys();
        x.remove(0, 5);
        x.commit(0, false);
        int blank = 1 << 10 | 1 << 9 | 1 << 11;
        int renewed = 1 | 1 << 1 | 1 << 3 | 1 << 7;
        for (int node = 0; node < 15; node++) {
            boolean isBlank = (blank >>> node & 1) != 0;
            boolean isNew = (renewed >>> node & 1) != 0;
            CHECK.node(x, 9, node, 1, 0);
            CHECK.node(x, 10, node, isBlank ? 0 : 1, 0, isBlank ? -1 : isNew ? 10 : x.node(9, node, 2));
        }
    }

    private static void committersLeafIsFresh() {
        CHECK.sentence("the committer's leaf has a FRESH key");
        RatchetGroup x = Groups.of(2);
        x.compromise(0);
        CHECK.openJust(x, 1, 1 | 1 << 1);
        x.commit(0, true);
        CHECK.node(x, 2, 0, 1, 0, 2, 1);
        CHECK.known(x, 1);
        CHECK.openJust(x, 2, 0);
    }

    private static void pathSecretsFromTheLowestOn() {
        CHECK.sentence("Of those that count, from the lowest on: the first has a FRESH path secret, each further one "
            + "NEXT of the one before; each has KEY of its path secret, and nothing unmerged;");
        RatchetGroup low = Groups.of(8);
        low.compromise(1);
        low.commit(0, true);
        CHECK.known(low, 1, 2);
        CHECK.openJust(low, 2, 1 << 2 | 1 << 1 | 1 << 3 | 1 << 7);
        RatchetGroup middle = Groups.of(8);
        middle.compromise(2);
        middle.commit(0, true);
        CHECK.known(middle, 1, 2);
        CHECK.openJust(middle, 2, 1 << 4 | 1 << 3 | 1 << 7);
        RatchetGroup high = Groups.of(8);
        high.compromise(4);
        high.commit(0, true);
        CHECK.known(high, 1, 2);
        CHECK.openJust(high, 2, 1 << 8 | 1 << 7);
    }

    private static void joinerNeedsBoth() {
        CHECK.sentence("The epoch's j is JOINER(INIT(the secret of the epoch before), c), its secret EPOCH(j).");
        RatchetGroup x = Groups.of(2);
        x.commit(0, true);
        x.come(1);
        x.commit(0, true);
        x.come(1);
        x.compromise(1);
        // Its leaf key opens the paths of epochs 2 and 3, but the secret of epoch 1 is forgotten.
        CHECK.openJust(x, 2, 1 << 2 | 1 << 1);
        CHECK.openJust(x, 3, 1 << 2 | 1 << 1);
        CHECK.known(x, 3);
    }

    private static void committerIsInTheNewEpoch() {
        CHECK.sentence("The committer is in the new epoch: it holds its new leaf key, and the keys of all nodes that count;");
        RatchetGroup x = Groups.of(4);
        CHECK.same("commit(2, true)", x.commit(2, true), 2);
        CHECK.member(x, 2, 2, 2, 4, 0);
        CHECK.holdsJust(x, 2, 1 << 4 | 1 << 5 | 1 << 3);
        CHECK.yes("has(2)", x.has(2));
        CHECK.member(x, 3, 1, 3, 3, 0);
    }

    private static void comersAreToldFromTheLowestOn() {
        CHECK.sentence("With a path: of the nodes that count, and are above its leaf, "
            + "the lowest one's path secret was ENCRYPTED for some keys:");
        RatchetGroup x = Groups.of(8);
        x.commit(0, true);
        Groups.allCome(x, 1, 2, 5);
        CHECK.holdsJust(x, 1, 1 << 2 | 1 << 1 | 1 << 3 | 1 << 7);
        CHECK.holdsJust(x, 2, 1 << 4 | 1 << 3 | 1 << 7);
        CHECK.holdsJust(x, 5, 1 << 10 | 1 << 7);
    }

    private static void joinersHold() {
        CHECK.sentence(", holds its leaf key, the epoch's secret, and with a path the keys of the nodes that count, "
            + "from the lowest one above its leaf on");
        RatchetGroup without = Groups.of(2);
        without.add(1, without.offer(5));
        without.commit(1, false);
        CHECK.same("come(5)", without.come(5), 2);
        CHECK.member(without, 5, 2, 2, 2, 0);
        CHECK.holdsJust(without, 5, 1 << 4);
        CHECK.yes("has(5)", without.has(5));
        RatchetGroup with = Groups.of(2);
        with.add(1, with.offer(5));
        with.commit(1, true);
        CHECK.same("come(5)", with.come(5), 2);
        CHECK.member(with, 5, 2, 2, 3, 0);
        CHECK.holdsJust(with, 5, 1 << 4 | 1 << 3);
        CHECK.yes("has(5)", with.has(5));
    }
}
