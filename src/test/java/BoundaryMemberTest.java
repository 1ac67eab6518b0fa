import java.lang.reflect.Field;
import java.util.List;

/** The boundary cases of the terms: what a member holds, drops and forgets, and what the intruder has of it. */
public final class BoundaryMemberTest {
    private static final Check CHECK = new Check();
    private static final int LEAF_0 = 1;
    private static final int LEAF_1 = 1 << 2;
    private static final int LEAF_2 = 1 << 4;
    private static final int LEAF_3 = 1 << 6;
    private static final int NODE_1 = 1 << 1;
    private static final int NODE_3 = 1 << 3;
    private static final int NODE_5 = 1 << 5;

    public static void main(String[] args) throws ReflectiveOperationException {
        updatesSinceItCame();
        packagesByWhichItHasNotJoined();
        whatItHoldsNoMore();
        removedHoldsPackagesAlone();
        removedFromTheLatestEpochOrLater();
        dropsKeysOfBlankNodes();
        dropsKeysThatAreOthersNow();
        dropsKeysOfNodesThatAreNotThere();
        keepsKeysWithoutAPath();
        leafKeyOfItsUpdate();
        committerKeepsWhatIsNotBlank();
        nobodyIsStuck();
        stuckAndStuckAgain();
        stuckForWantOfOneKey();
        joinsWhereItWasAdded();
        joinsTheEarliest();
        joinsFromTheLowestOn();
        firstKeyIsDropped();
        toldWhatWasHeldThen();
        toldInEitherOrder();
        keysTellNothingBack();
        toldBeforeItIsSent();
        toldByALeafUnderEachHeight();
        toldByAPackageUnderEachHeight();
        CHECK.finish();
    }

    private static void updatesSinceItCame() {
        CHECK.sentence("the FRESH key of each UPDATE that it proposed since it came to its epoch");
        RatchetGroup x = Groups.of(2);
        for (int i = 1; i <= 3; i++) {
            x.update(1);
            CHECK.member(x, 1, 1, 1, 3 + i, 0);
        }
        x.update(0);
        CHECK.member(x, 0, 1, 0, 4, 0);
        x.commit(0, false);
        CHECK.member(x, 0, 2, 0, 3, 0);
        CHECK.member(x, 1, 1, 1, 6, 0);
        x.come(1);
        CHECK.member(x, 1, 2, 1, 3, 0);
        x.update(1);
        CHECK.member(x, 1, 2, 1, 4, 0);
    }

    private static void packagesByWhichItHasNotJoined() {
        CHECK.sentence("of each of its PACKAGES by which it has not joined, both keys");
        RatchetGroup x = new RatchetGroup();
        for (int i = 1; i <= 3; i++) {
            x.offer(1);
            CHECK.member(x, 1, -1, -1, 2 * i, 0);
        }
        x.add(0, 1);
        CHECK.member(x, 1, -1, -1, 6, 0);
        x.commit(0, true);
        CHECK.member(x, 1, -1, -1, 6, 0);
        x.come(1);
        CHECK.member(x, 1, 1, 1, 4 + 3, 0);
        x.offer(0);
        CHECK.member(x, 0, 1, 0, 2 + 3, 0);
        CHECK.same("compromise(1)", x.compromise(1), 7);
    }

    private static void whatItHoldsNoMore() {
        CHECK.sentence("What it holds no more it has forgotten.");
        RatchetGroup x = Groups.of(2);
        x.commit(0, true);
        x.come(1);
        x.compromise(1);
        CHECK.known(x, 2);
        CHECK.openJust(x, 1, LEAF_1);
        CHECK.openJust(x, 2, LEAF_1 | NODE_1);
        RatchetGroup y = Groups.of(2);
        y.commit(0, true);
        y.compromise(0);
        CHECK.known(y, 2);
        CHECK.openJust(y, 1, 0);
        CHECK.openJust(y, 2, LEAF_0 | NODE_1);
        // An update that did not go is forgotten, and so are those of who was removed.
        RatchetGroup z = Groups.of(3);
        z.update(2);
        z.remove(0, 2);
        z.commit(0, false);
        CHECK.same("compromise(2)", z.compromise(2), 0);
        CHECK.known(z);
    }

    private static void removedHoldsPackagesAlone() {
        CHECK.sentence("if it was removed, it is in none, and holds packages' keys alone");
        RatchetGroup x = Groups.of(3);
        x.offer(2);
        x.offer(2);
        x.update(2);
        x.commit(0, true);
        x.remove(0, 2);
        x.commit(0, false);
        CHECK.member(x, 2, 1, 2, 4 + 3 + 1, 0);
        x.come(2);
        CHECK.member(x, 2, 2, 2, 4 + 3, 0);
        CHECK.same("come(2)", x.come(2), -1);
        CHECK.member(x, 2, -1, -1, 4, 0);
        CHECK.holdsJust(x, 2, 0);
        CHECK.no("has(2)", x.has(2));
        CHECK.same("compromise(2)", x.compromise(2), 4);
        CHECK.known(x);
    }

    private static void removedFromTheLatestEpochOrLater() {
        CHECK.sentence("its member is in no epoch from now on if it is in the latest one, else when it comes to it");
        RatchetGroup x = Groups.of(3);
        x.commit(0, true);
        x.come(1);
        x.remove(0, 1);
        x.remove(0, 2);
        x.commit(0, false);
        CHECK.epoch(x, 3, 0, 0, 0, 0b110, 0, 0, 0);
        CHECK.member(x, 1, -1, -1, 0, 0);
        CHECK.refusedState(x, "come(1)", () -> x.come(1));
        CHECK.member(x, 2, 1, 2, 3, 0);
        CHECK.holdsJust(x, 2, LEAF_2 | NODE_3);
        CHECK.yes("has(2)", x.has(2));
        CHECK.same("come(2)", x.come(2), 2);
        CHECK.member(x, 2, 2, 2, 3, 0);
        CHECK.same("come(2)", x.come(2), -1);
        CHECK.refusedState(x, "come(2)", () -> x.come(2));
        // Nor is it there if the leaf is another's by the time it comes.
        RatchetGroup y = Groups.of(2);
        y.commit(0, true);
        y.remove(0, 1);
        y.add(0, y.offer(5));
        y.commit(0, false);
        y.come(5);
        CHECK.member(y, 5, 3, 1, 3, 0);
        CHECK.same("come(1)", y.come(1), 2);
        CHECK.same("come(1)", y.come(1), -1);
        CHECK.member(y, 5, 3, 1, 3, 0);
    }

    /** Four members, of which 2 has made nodes 5 and 3 new in epoch 2, where all are. */
    private static RatchetGroup fourWithAPathBy2() {
        RatchetGroup x = Groups.of(4);
        x.commit(2, true);
        Groups.allCome(x, 0, 1, 3);
        CHECK.holdsJust(x, 3, LEAF_3 | NODE_5 | NODE_3);
        return x;
    }

    private static void dropsKeysOfBlankNodes() {
        CHECK.sentence("it drops keys of nodes of its path that are blank, or have another key now, "
            + "and of such as are not there");
        RatchetGroup updated = fourWithAPathBy2();
        updated.update(2);
        updated.commit(0, false);
        updated.come(3);
        CHECK.holdsJust(updated, 3, LEAF_3 | NODE_3);
        CHECK.member(updated, 3, 3, 3, 3, 0);
        RatchetGroup removed = fourWithAPathBy2();
        removed.remove(0, 2);
        removed.commit(0, false);
        removed.come(3);
        CHECK.holdsJust(removed, 3, LEAF_3 | NODE_3);
        CHECK.member(removed, 3, 3, 3, 3, 0);
    }

    private static void dropsKeysThatAreOthersNow() {
        CHECK.sentence("it drops keys of nodes of its path that are blank, or have another key now, "
            + "and of such as are not there");
        RatchetGroup x = Groups.of(4);
        x.update(3);
        x.commit(0, false);
        x.come(3);
        CHECK.member(x, 3, 2, 3, 3, 0);
        CHECK.holdsJust(x, 3, LEAF_3 | NODE_3);
        x.compromise(3);
        CHECK.openJust(x, 1, 0);
        CHECK.openJust(x, 2, LEAF_3 | NODE_3);
        CHECK.known(x, 2);
    }

    private static void dropsKeysOfNodesThatAreNotThere() {
        CHECK.sentence("it drops keys of nodes of its path that are blank, or have another key now, "
            + "and of such as are not there");
        RatchetGroup x = Groups.of(9);
        CHECK.member(x, 1, 1, 1, 6, 0);
        for (int leaf = 2; leaf < 9; leaf++) {
            x.remove(0, leaf);
        }
        x.commit(0, false);
        CHECK.member(x, 0, 2, 0, 3, 0);
        CHECK.member(x, 1, 1, 1, 6, 0);
        x.come(1);
        CHECK.member(x, 1, 2, 1, 3, 0);
        CHECK.holdsJust(x, 1, LEAF_1 | NODE_1);
        // Where the tree grows again, the nodes are others.
        x.add(0, x.offer(12));
        x.commit(0, true);
        CHECK.holdsJust(x, 1, LEAF_1 | NODE_1);
        x.come(1);
        CHECK.holdsJust(x, 1, LEAF_1 | NODE_1 | NODE_3);
    }

    private static void keepsKeysWithoutAPath() {
        CHECK.sentence("It holds the secret, if it held that of the epoch before and is not STUCK in this one.");
        RatchetGroup x = fourWithAPathBy2();
        x.add(0, x.offer(4));
        x.commit(0, false);
        x.come(3);
        CHECK.holdsJust(x, 3, LEAF_3 | NODE_5 | NODE_3);
        CHECK.member(x, 3, 3, 3, 4, 0);
        CHECK.yes("has(3)", x.has(3));
        // Its waiting update is dropped even where nothing but an ADD goes.
        RatchetGroup y = Groups.of(2);
        y.add(0, y.offer(2));
        y.update(0);
        y.commit(0, false);
        y.come(1);
        CHECK.member(y, 0, 2, 0, 3, 0);
        CHECK.member(y, 1, 2, 1, 3, 0);
    }

    private static void leafKeyOfItsUpdate() {
        CHECK.sentence("its leaf's key is that of its UPDATE, if that goes; other updates of its are dropped");
        RatchetGroup x = Groups.of(2);
        x.compromise(1);
        x.update(1);
        x.update(1);
        x.commit(0, false);
        CHECK.holdsJust(x, 1, LEAF_1 | NODE_1);
        x.come(1);
        CHECK.member(x, 1, 2, 1, 3, 0);
        CHECK.holdsJust(x, 1, LEAF_1 | NODE_1);
        CHECK.node(x, 2, 2, 1, 0, 2, 1);
        CHECK.openJust(x, 2, 0);
        // The next path is told to it by the new key.
        x.commit(0, true);
        CHECK.same("come(1)", x.come(1), 3);
        CHECK.yes("has(1)", x.has(1));
        CHECK.known(x, 1);
    }

    private static void committerKeepsWhatIsNotBlank() {
        CHECK.sentence("of others of its path those that it held, if they are not blank");
        RatchetGroup x = fourWithAPathBy2();
        x.add(3, x.offer(4));
        x.commit(3, false);
        CHECK.holdsJust(x, 3, LEAF_3 | NODE_5 | NODE_3);
        CHECK.member(x, 3, 3, 3, 4, 0);
        // What it did not hold it does not hold now: it is unmerged in node 3.
        RatchetGroup y = Groups.of(3);
        y.add(0, y.offer(3));
        y.commit(0, false);
        y.come(3);
        y.add(3, y.offer(4));
        y.commit(3, false);
        CHECK.node(y, 3, 3, 1, 0b1000, 1, 2);
        CHECK.holdsJust(y, 3, LEAF_3);
        CHECK.member(y, 3, 3, 3, 2, 0);
        // Nodes that are not there any more go.
        RatchetGroup z = Groups.of(3);
        z.remove(0, 2);
        z.commit(1, false);
        CHECK.member(z, 1, 2, 1, 3, 0);
        CHECK.holdsJust(z, 1, LEAF_1 | NODE_1);
    }

    private static void nobodyIsStuck() {
        CHECK.sentence("it is told the keys of that node and of all that count above");
        for (int committer = 0; committer < 16; committer++) {
            RatchetGroup x = Groups.of(16);
            x.commit(committer, true);
            for (int m = 0; m < 16; m++) {
                if (m != committer) {
                    CHECK.same("come(" + m + ")", x.come(m), 2);
                    CHECK.same("member(" + m + ", 3)", x.member(m, 3), 0);
                    CHECK.yes("has(" + m + ")", x.has(m));
                    CHECK.holdsJust(x, m, 1 << 2 * m | overBoth(m, committer) | keptFromEpoch1(m, committer));
                }
            }
        }
    }

    /** The nodes over a leaf, as bits, from that of a height on. */
    private static int over(int leaf, int height) {
        int nodes = 0;
        for (int h = height; h <= 4; h++) {
            nodes |= 1 << ((leaf >> h << h + 1) + (1 << h) - 1);
        }
        return nodes;
    }

    private static int overBoth(int leaf, int other) {
        return over(leaf, 1) & over(other, 1);
    }

    /** In epoch 1, by member 0, the nodes over leaf 0 got keys; those over the committer have new ones. */
    private static int keptFromEpoch1(int leaf, int committer) {
        return overBoth(leaf, 0) & ~over(committer, 1);
    }

    /** By the document's own rules nobody is ever STUCK, so what a member holds is taken from it by force. */
    private static void takeKeys(RatchetGroup x, int m, int nodes) throws ReflectiveOperationException {
        Object member = ((List<?>) inside(x, "members")).get(m);
        int[] keys = (int[]) inside(inside(member, "keys"), "cells");
        for (int node = 0; node < keys.length; node++) {
            if ((nodes >>> node & 1) != 0) {
                keys[node] = RatchetGroup.NONE;
            }
        }
    }

    private static Object inside(Object owner, String name) throws ReflectiveOperationException {
        Field field = owner.getClass().getDeclaredField(name);
        field.setAccessible(true);
        return field.get(owner);
    }

    private static void stuckAndStuckAgain() throws ReflectiveOperationException {
        CHECK.sentence("else it is STUCK (it is in the epoch all the same, without them)");
        RatchetGroup x = Groups.of(3);
        takeKeys(x, 1, LEAF_1 | NODE_1 | NODE_3);
        CHECK.member(x, 1, 1, 1, 1, 0);
        x.commit(0, true);
        CHECK.same("come(1)", x.come(1), 2);
        CHECK.member(x, 1, 2, 1, 0, 1);
        CHECK.holdsJust(x, 1, 0);
        CHECK.no("has(1)", x.has(1));
        x.commit(0, true);
        CHECK.same("come(1)", x.come(1), 3);
        CHECK.member(x, 1, 3, 1, 0, 2);
        CHECK.sentence("It holds the secret, if it held that of the epoch before and is not STUCK in this one.");
        x.update(1);
        x.commit(0, false);
        CHECK.same("come(1)", x.come(1), 4);
        CHECK.member(x, 1, 4, 1, 3, 2);
        CHECK.holdsJust(x, 1, LEAF_1 | NODE_1 | NODE_3);
        CHECK.no("has(1)", x.has(1));
        x.add(0, x.offer(3));
        x.commit(0, false);
        x.come(1);
        CHECK.member(x, 1, 5, 1, 3, 2);
        CHECK.no("has(1)", x.has(1));
        CHECK.same("compromise(1)", x.compromise(1), 3);
        CHECK.known(x);
        // Who is removed and added anew has what any other has that joins; how often stays.
        x.remove(0, 1);
        x.add(0, x.offer(1));
        x.commit(0, false);
        x.come(1);
        CHECK.member(x, 1, 6, 1, 4, 2);
        CHECK.yes("has(1)", x.has(1));
    }

    private static void stuckForWantOfOneKey() throws ReflectiveOperationException {
        CHECK.sentence("if it holds one of these (as it was before that epoch; "
            + "its leaf's, if an UPDATE goes, is the new one) it is told the keys of that node and of all that count above");
        // The path by 2 is encrypted for node 1 alone on this side, not for leaf 1.
        RatchetGroup node = Groups.of(3);
        takeKeys(node, 1, NODE_1);
        node.commit(2, true);
        node.come(1);
        CHECK.member(node, 1, 2, 1, 1, 1);
        CHECK.holdsJust(node, 1, LEAF_1);
        RatchetGroup leaf = Groups.of(3);
        takeKeys(leaf, 1, LEAF_1);
        leaf.commit(2, true);
        leaf.come(1);
        CHECK.member(leaf, 1, 2, 1, 3, 0);
        CHECK.holdsJust(leaf, 1, NODE_1 | NODE_3);
        // Its UPDATE goes: node 1 is blank then, and the new leaf key is what it needs.
        RatchetGroup updated = Groups.of(3);
        takeKeys(updated, 1, LEAF_1 | NODE_1 | NODE_3);
        updated.update(1);
        updated.commit(2, false);
        updated.come(1);
        CHECK.member(updated, 1, 2, 1, 3, 0);
        CHECK.holdsJust(updated, 1, LEAF_1 | NODE_3);
        CHECK.yes("has(1)", updated.has(1));
    }

    private static void joinsWhereItWasAdded() {
        CHECK.sentence("One that was added JOINS: it is in the epoch that the ADD opened");
        RatchetGroup x = Groups.of(2);
        x.add(0, x.offer(2));
        x.commit(0, true);
        x.commit(0, true);
        x.commit(0, true);
        CHECK.same("come(2)", x.come(2), 2);
        CHECK.member(x, 2, 2, 2, 3, 0);
        CHECK.holdsJust(x, 2, LEAF_2 | NODE_3);
        CHECK.yes("has(2)", x.has(2));
        CHECK.same("come(2)", x.come(2), 3);
        CHECK.same("come(2)", x.come(2), 4);
        CHECK.refusedState(x, "come(2)", () -> x.come(2));
    }

    private static void joinsTheEarliest() {
        CHECK.sentence("JOINS (the earliest one in which it was added and that it has not joined)");
        RatchetGroup x = new RatchetGroup();
        for (int i = 0; i < 3; i++) {
            x.offer(1);
        }
        for (int offered = 2; offered >= 0; offered--) {
            x.add(0, offered);
            x.commit(0, true);
            x.remove(0, 1);
            x.commit(0, true);
        }
        for (int e = 1; e <= 5; e += 2) {
            CHECK.same("come(1)", x.come(1), e);
            CHECK.holdsJust(x, 1, LEAF_1 | NODE_1);
            CHECK.same("come(1)", x.come(1), -1);
        }
        CHECK.refusedState(x, "come(1)", () -> x.come(1));
        CHECK.member(x, 1, -1, -1, 0, 0);
    }

    private static void joinsFromTheLowestOn() {
        CHECK.sentence("with a path the keys of the nodes that count, from the lowest one above its leaf on");
        RatchetGroup x = Groups.of(16);
        int top = 1 << 15;
        CHECK.holdsJust(x, 1, 1 << 2 | 1 << 1 | 1 << 3 | 1 << 7 | top);
        CHECK.holdsJust(x, 3, 1 << 6 | 1 << 3 | 1 << 7 | top);
        CHECK.holdsJust(x, 4, 1 << 8 | 1 << 7 | top);
        CHECK.holdsJust(x, 15, 1 << 30 | top);
        // Without a path its leaf key is all, though the nodes over it have keys.
        RatchetGroup y = Groups.of(3);
        y.add(0, y.offer(3));
        y.commit(0, false);
        y.come(3);
        CHECK.holdsJust(y, 3, LEAF_3);
        CHECK.member(y, 3, 2, 3, 2, 0);
        CHECK.yes("has(3)", y.has(3));
        // Added at a leaf over which a node has a key that does not count: it is not told that one.
        RatchetGroup z = Groups.of(5);
        z.remove(0, 2);
        z.commit(0, true);
        z.come(4);
        z.add(4, z.offer(2));
        z.commit(4, true);
        CHECK.same("come(2)", z.come(2), 3);
        CHECK.node(z, 3, 3, 1, 0b100, 2, 2);
        CHECK.holdsJust(z, 2, LEAF_2 | 1 << 7);
    }

    private static void firstKeyIsDropped() {
        CHECK.sentence("the package's first key is dropped");
        RatchetGroup x = Groups.of(2);
        x.add(0, x.offer(2));
        x.commit(0, false);
        CHECK.member(x, 2, -1, -1, 2, 0);
        x.come(2);
        CHECK.member(x, 2, 2, 2, 2, 0);
        x.update(2);
        x.commit(0, false);
        x.come(2);
        CHECK.same("compromise(2)", x.compromise(2), 3);
        CHECK.known(x, 3);
    }

    private static void toldWhatWasHeldThen() {
        CHECK.sentence("all that members held when they were COMPROMISED");
        RatchetGroup x = Groups.of(2);
        x.compromise(0);
        x.compromise(1);
        CHECK.known(x, 1);
        // A leaf key that was told opens the path of the other one, but a path of its own heals.
        x.commit(0, true);
        CHECK.known(x, 1, 2);
        x.commit(0, true);
        CHECK.known(x, 1, 2, 3);
        Groups.allCome(x, 1, 1);
        x.commit(1, true);
        CHECK.known(x, 1, 2, 3);
        CHECK.openJust(x, 4, 0);
        // An update proposed after it was told is not told.
        RatchetGroup y = Groups.of(2);
        y.compromise(1);
        y.update(1);
        y.commit(0, false);
        CHECK.known(y, 1);
    }

    private static void toldInEitherOrder() {
        CHECK.sentence("who knows i and c knows JOINER(i, c)");
        // The secret before first, the path later.
        RatchetGroup x = Groups.of(2);
        x.compromise(0);
        x.commit(0, true);
        CHECK.known(x, 1);
        x.compromise(1);
        CHECK.known(x, 1, 2);
        // The path first, the secret before later.
        RatchetGroup y = new RatchetGroup();
        y.add(0, y.offer(1));
        y.add(0, y.offer(2));
        y.commit(0, false);
        y.commit(0, true);
        y.commit(0, true);
        Groups.allCome(y, 1, 1, 1);
        y.compromise(1);
        CHECK.known(y, 3);
        CHECK.openJust(y, 2, LEAF_1 | NODE_1 | NODE_3);
        y.come(2);
        y.compromise(2);
        CHECK.known(y, 1, 2, 3);
        // One without the other is nothing.
        RatchetGroup z = Groups.of(2);
        z.compromise(0);
        z.commit(0, true);
        z.commit(0, true);
        CHECK.known(z, 1);
        CHECK.openJust(z, 2, 0);
    }

    private static void keysTellNothingBack() {
        CHECK.sentence("Who knows p, or j, or e, knows what these have of it");
        RatchetGroup x = Groups.of(4);
        x.compromise(0);
        x.commit(0, true);
        Groups.allCome(x, 1, 2, 3);
        CHECK.known(x, 1);
        x.commit(2, true);
        x.come(0);
        // Told now: node 1's key of epoch 2, but not the path secret that it is of, nor what else that has.
        CHECK.same("compromise(0)", x.compromise(0), 4);
        CHECK.known(x, 1, 3);
        CHECK.openJust(x, 2, LEAF_0 | NODE_1);
        CHECK.openJust(x, 3, LEAF_0 | NODE_1 | NODE_3);
    }

    private static void toldBeforeItIsSent() {
        CHECK.sentence("ENCRYPTED(k, s) is seen by all: who knows k knows s.");
        RatchetGroup x = Groups.of(2);
        x.offer(2);
        x.compromise(2);
        CHECK.known(x);
        x.add(0, 1);
        x.commit(0, true);
        CHECK.known(x, 2);
        CHECK.openJust(x, 2, LEAF_2 | NODE_3);
        // The same, told after it was sent.
        RatchetGroup y = Groups.of(2);
        y.offer(2);
        y.add(0, 1);
        y.commit(0, true);
        CHECK.known(y);
        CHECK.same("compromise(2)", y.compromise(2), 2);
        CHECK.known(y, 2);
        CHECK.openJust(y, 2, LEAF_2 | NODE_3);
    }

    private static void toldByALeafUnderEachHeight() {
        CHECK.sentence("ENCRYPTED(k, s) is seen by all: who knows k knows s.");
        for (int height = 1; height <= 4; height++) {
            RatchetGroup x = Groups.of(16);
            int told = 1 << (height - 1);
            x.compromise(told);
            x.commit(0, true);
            CHECK.known(x, 1, 2);
            CHECK.openJust(x, 2, 1 << 2 * told | over(told, height));
        }
    }

    private static void toldByAPackageUnderEachHeight() {
        CHECK.sentence("and with a path also the path secret of the lowest node that counts and is above its leaf");
        for (int height = 1; height <= 4; height++) {
            RatchetGroup x = new RatchetGroup();
            for (int m = 1; m < 16; m++) {
                x.add(0, x.offer(m));
            }
            int told = 1 << (height - 1);
            x.compromise(told);
            x.commit(0, true);
            CHECK.known(x, 1);
            CHECK.openJust(x, 1, 1 << 2 * told | over(told, height));
        }
    }
}
