/** The boundary cases of the terms: which proposals go, how a tree shrinks and grows, what a path does. */
public final class BoundaryTreeTest {
    private static final Check CHECK = new Check();
    private static final int TO_THE_TOP_FROM_0 = 1 << 1 | 1 << 3 | 1 << 7 | 1 << 15;

    public static void main(String[] args) {
        treesOfEachSize();
        pathOfEachLeaf();
        resolutionWithAKey();
        resolutionOfABlankLeaf();
        resolutionOfABlankNode();
        withACommitAllGo();
        removeOfABlankLeaf();
        removeOfTheCommitter();
        removeTwice();
        updateOfTheCommitter();
        updateThatIsNotTheLatest();
        updateOfARemovedLeaf();
        addOfAUsedPackage();
        addOfWhoHasALeaf();
        addOfWhoIsInTheLatestEpoch();
        addOfWhoIsRemovedFromTheLatestEpoch();
        addOfWhoIsInAnOldEpoch();
        addTwiceOfOneMember();
        addWhenAllLeavesAreTaken();
        shrinkToTheLast();
        shrinkNoMoreThanDue();
        shrinkNotBelowZero();
        grownAgainIsBlank();
        updateMakesThePathBlank();
        lowestBlankLeaf();
        growAtEachPowerOfTwo();
        unmergedFirstAndLastLeaf();
        unmergedOnlyWhereThereIsAKey();
        pathOnlyIfItMust();
        pathNodesThatDoNotCount();
        nothingCounts();
        addedLeavesAreLeftOut();
        welcomes();
        CHECK.finish();
    }

    private static void treesOfEachSize() {
        CHECK.sentence("D 0 .. 4, and 2^D leaves; its nodes are 0 .. 2^(D+1) - 2");
        int[] depths = {0, 1, 2, 2, 3, 3, 3, 3, 4, 4, 4, 4, 4, 4, 4, 4};
        int[] lastNodes = {0, 2, 6, 14, 30};
        for (int size = 1; size <= 16; size++) {
            RatchetGroup x = Groups.of(size);
            int depth = depths[size - 1];
            int added = (1 << size) - 2;
            CHECK.epoch(x, 1, depth, 0, x.epoch(1, 2), 0, 0, added);
            CHECK.yes("the last node is there", x.node(1, lastNodes[depth], 0) != -1);
            CHECK.same("node behind the last one", x.node(1, lastNodes[depth] + 1, 0), -1);
            for (int leaf = 0; 2 * leaf <= lastNodes[depth]; leaf++) {
                CHECK.same("leaf " + leaf, x.node(1, 2 * leaf, 0), leaf < size ? 1 : 0);
            }
        }
    }

    private static void pathOfEachLeaf() {
        CHECK.sentence("a node's HEIGHT is the number of ones at its end in binary; "
            + "the two nodes below one of height h are it less and more 2^(h-1)");
        int[] low = {1, 5, 9, 13, 17, 21, 25, 29};
        int[] middle = {3, 11, 19, 27};
        int[] high = {7, 23};
        for (int leaf = 0; leaf < 16; leaf++) {
            RatchetGroup x = Groups.of(16);
            x.commit(leaf, true);
            int path = 1 << low[leaf / 2] | 1 << middle[leaf / 4] | 1 << high[leaf / 8] | 1 << 15;
            CHECK.epoch(x, 2, 4, leaf, path, 0, 0, 0);
            CHECK.holdsJust(x, leaf, path | 1 << 2 * leaf);
        }
    }

    private static void resolutionWithAKey() {
        CHECK.sentence("it, and its unmerged leaves, if it has a key");
        RatchetGroup x = Groups.of(8);
        CHECK.node(x, 1, 7, 1, 0, 1, 1);
        x.remove(0, 6);
        x.remove(0, 7);
        x.commit(0, true);
        CHECK.node(x, 2, 7, 1, 0, 2, 1);
        x.add(0, x.offer(7));
        x.commit(0, false);
        CHECK.node(x, 3, 7, 1, 1 << 6, 2, 2);
        x.add(0, x.offer(6));
        x.commit(0, false);
        CHECK.node(x, 4, 7, 1, 1 << 6 | 1 << 7, 2, 3);
        x.commit(0, true);
        CHECK.node(x, 5, 7, 1, 0, 5, 1);
    }

    private static void resolutionOfABlankLeaf() {
        CHECK.sentence("nothing for a leaf that is blank");
        RatchetGroup x = Groups.of(5);
        for (int leaf = 5; leaf < 8; leaf++) {
            CHECK.node(x, 1, 2 * leaf, 0, 0, -1, 0);
        }
        x.remove(0, 2);
        x.commit(0, true);
        CHECK.node(x, 2, 4, 0, 0, -1, 0);
        CHECK.node(x, 2, 6, 1, 0, 1, 1);
    }

    private static void resolutionOfABlankNode() {
        CHECK.sentence("else the resolutions of the two below");
        RatchetGroup x = Groups.of(5);
        CHECK.node(x, 1, 13, 0, 0, -1, 0);
        CHECK.node(x, 1, 9, 0, 0, -1, 1);
        CHECK.node(x, 1, 11, 0, 0, -1, 1);
        CHECK.node(x, 1, 5, 0, 0, -1, 2);
        // Blank over a node that has a key and an unmerged leaf: both are of its resolution.
        x.remove(0, 1);
        x.commit(0, true);
        x.add(0, x.offer(1));
        x.commit(0, false);
        CHECK.node(x, 3, 3, 1, 0b10, 2, 2);
        x.come(4);
        x.come(4);
        x.update(4);
        x.add(4, x.offer(8));
        x.add(4, x.offer(9));
        x.add(4, x.offer(10));
        x.add(4, x.offer(11));
        x.commit(4, false);
        // Its own UPDATE does not go, so this has no path: the top is new and blank.
        CHECK.epoch(x, 4, 4, 4, 0, 0, 0, 1 << 5 | 1 << 6 | 1 << 7 | 1 << 8, 4);
        CHECK.node(x, 4, 7, 1, 1 << 1 | 1 << 5 | 1 << 6 | 1 << 7, 2, 5);
        CHECK.node(x, 4, 15, 0, 0, -1, 6);
        CHECK.node(x, 4, 23, 0, 0, -1, 1);
    }

    private static void withACommitAllGo() {
        CHECK.sentence("With a COMMIT all go.");
        RatchetGroup x = new RatchetGroup();
        x.remove(0, 1);
        x.update(0);
        x.add(0, x.offer(0));
        CHECK.same("waiting()", x.waiting(), 3);
        x.commit(0, false);
        CHECK.same("waiting()", x.waiting(), 0);
        CHECK.epoch(x, 1, 0, 0, 0, 0, 0, 0, 0);
        // What could not go does not go later, either.
        x.add(0, x.offer(1));
        x.commit(0, false);
        CHECK.epoch(x, 2, 1, 0, 0, 0, 0, 0b10, 1);
        x.commit(0, false);
        CHECK.epoch(x, 3, 1, 0, 0b10, 0, 0, 0, 1);
    }

    private static void removeOfABlankLeaf() {
        CHECK.sentence("a REMOVE of a leaf that is not blank, not the committer's, and of which no REMOVE goes");
        RatchetGroup x = Groups.of(3);
        x.remove(0, 3);
        x.remove(0, 4);
        x.remove(0, 15);
        x.add(0, x.offer(3));
        x.remove(0, 3);
        x.commit(0, false);
        CHECK.epoch(x, 2, 2, 0, 0, 0, 0, 0b1000, 1);
        CHECK.node(x, 2, 6, 1, 0, 2, 1);
    }

    private static void removeOfTheCommitter() {
        CHECK.sentence("a REMOVE of a leaf that is not blank, not the committer's, and of which no REMOVE goes");
        RatchetGroup x = Groups.of(2);
        x.remove(1, 0);
        x.commit(0, false);
        CHECK.epoch(x, 2, 1, 0, 0b10, 0, 0, 0, 1);
        CHECK.member(x, 0, 2, 0, 3, 0);
        RatchetGroup y = Groups.of(2);
        y.remove(0, 0);
        y.commit(1, false);
        CHECK.epoch(y, 2, 1, 1, 0, 0b1, 0, 0, 0);
        CHECK.member(y, 0, -1, -1, 0, 0);
        CHECK.member(y, 1, 2, 1, 2, 0);
        // It is the leaf that counts, not the member of the same number.
        RatchetGroup z = new RatchetGroup();
        z.add(0, z.offer(9));
        z.commit(0, true);
        z.come(9);
        z.remove(0, 1);
        z.remove(0, 0);
        z.commit(9, false);
        CHECK.epoch(z, 2, 1, 1, 0, 0b1, 0, 0, 0);
    }

    private static void removeTwice() {
        CHECK.sentence("a REMOVE of a leaf that is not blank, not the committer's, and of which no REMOVE goes");
        RatchetGroup x = Groups.of(3);
        for (int i = 0; i < 20; i++) {
            x.remove(i % 3, 2);
        }
        x.commit(0, false);
        CHECK.epoch(x, 2, 1, 0, 0b10, 0b100, 0, 0, 1);
    }

    private static void updateOfTheCommitter() {
        CHECK.sentence("an UPDATE that is not the committer's, the latest one of its leaf, of which no REMOVE goes");
        RatchetGroup x = Groups.of(2);
        x.update(1);
        x.commit(1, false);
        CHECK.epoch(x, 2, 1, 1, 0b10, 0, 0, 0, 1);
        CHECK.node(x, 2, 2, 1, 0, 2, 1);
        CHECK.member(x, 1, 2, 1, 3, 0);
        RatchetGroup y = Groups.of(2);
        y.update(0);
        y.add(0, y.offer(2));
        y.commit(0, false);
        CHECK.epoch(y, 2, 2, 0, 0, 0, 0, 0b100, 1);
        CHECK.node(y, 2, 0, 1, 0, 1, 1);
    }

    private static void updateThatIsNotTheLatest() {
        CHECK.sentence("the latest one of its leaf");
        RatchetGroup x = Groups.of(3);
        x.update(2);
        x.update(1);
        x.compromise(2);
        x.update(2);
        x.commit(0, false);
        CHECK.epoch(x, 2, 2, 0, 0b1010, 0, 0b110, 0, 2);
        CHECK.known(x, 1);
        CHECK.openJust(x, 2, 0);
        CHECK.same("come(2)", x.come(2), 2);
        CHECK.holdsJust(x, 2, 1 << 4 | 1 << 3);
        CHECK.member(x, 2, 2, 2, 3, 0);
        RatchetGroup y = Groups.of(3);
        y.update(2);
        y.update(2);
        y.compromise(2);
        y.commit(0, false);
        CHECK.known(y, 1, 2);
        CHECK.openJust(y, 2, 1 << 4 | 1 << 3);
    }

    private static void updateOfARemovedLeaf() {
        CHECK.sentence("an UPDATE that is not the committer's, the latest one of its leaf, of which no REMOVE goes");
        RatchetGroup before = Groups.of(3);
        before.update(2);
        before.remove(0, 2);
        before.commit(0, false);
        CHECK.epoch(before, 2, 1, 0, 0b10, 0b100, 0, 0, 1);
        RatchetGroup after = Groups.of(4);
        after.remove(0, 2);
        after.update(2);
        after.update(3);
        after.commit(0, false);
        CHECK.epoch(after, 2, 2, 0, 0b1010, 0b100, 0b1000, 0, 2);
        CHECK.node(after, 2, 4, 0, 0, -1, 0);
        // The leaf is given to another at once, and its UPDATE is still of who was removed.
        RatchetGroup taken = Groups.of(3);
        taken.remove(0, 2);
        taken.update(2);
        taken.add(0, taken.offer(7));
        taken.commit(0, false);
        CHECK.epoch(taken, 2, 2, 0, 0b1010, 0b100, 0, 0b100, 3);
        CHECK.same("come(7)", taken.come(7), 2);
        CHECK.holdsJust(taken, 7, 1 << 4 | 1 << 3);
    }

    private static void addOfAUsedPackage() {
        CHECK.sentence("an ADD of a package that has not been used");
        RatchetGroup x = Groups.of(2);
        x.remove(0, 1);
        x.commit(0, false);
        x.add(0, 0);
        x.commit(0, false);
        CHECK.epoch(x, 3, 0, 0, 0, 0, 0, 0, 0);
        CHECK.node(x, 3, 0, 1, 0, 3, 1);
        // Used and removed in the very commit that would use it once more.
        RatchetGroup y = Groups.of(2);
        y.remove(0, 1);
        y.add(0, 0);
        y.commit(0, false);
        CHECK.epoch(y, 2, 0, 0, 0, 0b10, 0, 0, 0);
    }

    private static void addOfWhoHasALeaf() {
        CHECK.sentence("whose member has no leaf (when all REMOVEs are done)");
        RatchetGroup x = new RatchetGroup();
        x.add(0, x.offer(1));
        x.commit(0, true);
        x.add(0, x.offer(1));
        x.commit(0, false);
        CHECK.epoch(x, 2, 1, 0, 0b10, 0, 0, 0, 1);
        x.add(0, 1);
        x.remove(0, 1);
        x.commit(0, false);
        CHECK.epoch(x, 3, 1, 0, 0b10, 0b10, 0, 0b10, 2);
        CHECK.same("come(1)", x.come(1), 1);
        CHECK.same("come(1)", x.come(1), 2);
        CHECK.same("come(1)", x.come(1), -1);
        CHECK.same("come(1)", x.come(1), 3);
        // The first leaf is one, too.
        RatchetGroup y = Groups.of(2);
        y.remove(1, 0);
        y.add(1, y.offer(5));
        y.commit(1, false);
        CHECK.epoch(y, 2, 1, 1, 0b10, 0b1, 0, 0b1, 2);
        y.add(1, y.offer(5));
        y.commit(1, false);
        CHECK.epoch(y, 3, 1, 1, 0b10, 0, 0, 0, 1);
        // And the last one.
        RatchetGroup z = new RatchetGroup();
        for (int m = 1; m < 16; m++) {
            z.add(0, z.offer(m));
        }
        z.commit(0, false);
        z.add(0, z.offer(15));
        z.commit(0, false);
        CHECK.epoch(z, 2, 4, 0, TO_THE_TOP_FROM_0, 0, 0, 0, 15);
    }

    private static void addOfWhoIsInTheLatestEpoch() {
        CHECK.sentence("is in no epoch (but for the latest one, if its REMOVE goes)");
        RatchetGroup x = Groups.of(2);
        x.add(0, x.offer(1));
        x.add(0, x.offer(0));
        x.commit(0, false);
        CHECK.epoch(x, 2, 1, 0, 0b10, 0, 0, 0, 1);
        // The committer's own REMOVE does not go.
        RatchetGroup y = Groups.of(2);
        y.remove(1, 0);
        y.add(1, y.offer(0));
        y.commit(0, false);
        CHECK.epoch(y, 2, 1, 0, 0b10, 0, 0, 0, 1);
    }

    private static void addOfWhoIsRemovedFromTheLatestEpoch() {
        CHECK.sentence("is in no epoch (but for the latest one, if its REMOVE goes)");
        RatchetGroup x = Groups.of(4);
        x.add(0, x.offer(3));
        x.remove(0, 1);
        x.remove(0, 3);
        x.commit(0, false);
        CHECK.epoch(x, 2, 2, 0, 0b1010, 0b1010, 0, 0b10, 3);
        CHECK.member(x, 3, -1, -1, 2, 0);
        CHECK.same("come(3)", x.come(3), 2);
        CHECK.member(x, 3, 2, 1, 4, 0);
        // Member 0, who was there first, may go and be added like any other.
        RatchetGroup y = Groups.of(3);
        y.remove(2, 0);
        y.add(2, y.offer(0));
        y.commit(2, false);
        CHECK.epoch(y, 2, 2, 2, 0b1000, 0b1, 0, 0b1, 3);
        CHECK.same("come(0)", y.come(0), 2);
        y.remove(2, 0);
        y.commit(2, false);
        y.add(2, y.offer(0));
        y.commit(2, false);
        CHECK.epoch(y, 4, 2, 2, 0, 0, 0, 0b1, 1);
        CHECK.same("come(0)", y.come(0), 4);
    }

    private static void addOfWhoIsInAnOldEpoch() {
        CHECK.sentence("is in no epoch (but for the latest one, if its REMOVE goes)");
        RatchetGroup x = Groups.of(2);
        x.commit(0, true);
        x.remove(0, 1);
        x.add(0, x.offer(1));
        x.commit(0, false);
        CHECK.epoch(x, 3, 0, 0, 0, 0b10, 0, 0, 0);
        x.add(0, 1);
        x.commit(0, false);
        CHECK.epoch(x, 4, 0, 0, 0, 0, 0, 0, 0);
        CHECK.same("come(1)", x.come(1), 2);
        x.add(0, 1);
        x.commit(0, false);
        CHECK.epoch(x, 5, 0, 0, 0, 0, 0, 0, 0);
        CHECK.same("come(1)", x.come(1), -1);
        x.add(0, 1);
        x.commit(0, false);
        CHECK.epoch(x, 6, 1, 0, 0, 0, 0, 0b10, 1);
        CHECK.same("come(1)", x.come(1), 6);
    }

    private static void addTwiceOfOneMember() {
        CHECK.sentence("has no other ADD that goes");
        RatchetGroup x = Groups.of(2);
        int one = x.offer(2);
        int other = x.offer(2);
        x.add(0, other);
        x.add(0, one);
        x.add(0, other);
        x.commit(0, false);
        CHECK.epoch(x, 2, 2, 0, 0, 0, 0, 0b100, 1);
        x.remove(0, 2);
        x.commit(0, false);
        x.come(2);
        x.come(2);
        x.add(0, other);
        x.commit(0, false);
        CHECK.epoch(x, 4, 1, 0, 0b10, 0, 0, 0, 1);
        x.add(0, one);
        x.commit(0, false);
        CHECK.epoch(x, 5, 2, 0, 0, 0, 0, 0b100, 1);
    }

    private static void addWhenAllLeavesAreTaken() {
        CHECK.sentence("has no other ADD that goes, and for whom there is a leaf");
        RatchetGroup x = Groups.of(16);
        for (int m = 0; m < 16; m++) {
            x.add(0, x.offer(m));
        }
        x.commit(0, false);
        CHECK.epoch(x, 2, 4, 0, TO_THE_TOP_FROM_0, 0, 0, 0, 15);
        // Room is where one goes at the same time.
        x.come(9);
        x.add(0, 15 + 9);
        x.add(0, 15 + 3);
        x.remove(0, 9);
        x.commit(0, false);
        CHECK.epoch(x, 3, 4, 0, TO_THE_TOP_FROM_0, 1 << 9, 0, 1 << 9, 14 + 2);
    }

    private static RatchetGroup keeping(int size, int committer, int kept) {
        RatchetGroup x = Groups.of(size);
        for (int leaf = 0; leaf < size; leaf++) {
            if ((kept >>> leaf & 1) == 0) {
                x.remove(committer, leaf);
            }
        }
        x.commit(committer, false);
        return x;
    }

    private static void shrinkToTheLast() {
        CHECK.sentence("while the right half's leaves are all blank, D is one less (not below 0)");
        RatchetGroup x = keeping(16, 0, 1);
        CHECK.epoch(x, 2, 0, 0, 0, 0xFFFE, 0, 0, 0);
        for (int node = 1; node < 31; node++) {
            CHECK.same("node(2, " + node + ", 0)", x.node(2, node, 0), -1);
        }
        CHECK.member(x, 0, 2, 0, 2, 0);
        CHECK.epoch(x, 1, 4);
        CHECK.node(x, 1, 30, 1, 0, 1, 1);
        CHECK.epoch(keeping(16, 0, 0b11), 2, 1, 0, 0b10, 0xFFFC, 0, 0, 1);
        CHECK.epoch(keeping(16, 1, 0b110), 2, 2, 1, 0b1000, 0xFFF9, 0, 0, 1);
        CHECK.epoch(keeping(16, 3, 0b1000), 2, 2, 3, 0, 0xFFF7, 0, 0, 0);
        CHECK.epoch(keeping(16, 4, 0b10000), 2, 3, 4, 0, 0xFFEF, 0, 0, 0);
        CHECK.epoch(keeping(9, 0, 0xFF), 2, 3, 0, 1 << 1 | 1 << 3 | 1 << 7, 1 << 8, 0, 0, 7);
        CHECK.epoch(keeping(2, 0, 1), 2, 0, 0, 0, 0b10, 0, 0, 0);
    }

    private static void shrinkNoMoreThanDue() {
        CHECK.sentence("while the right half's leaves are all blank, D is one less (not below 0)");
        // The left half, or the rest of the right half, may be blank as it likes.
        CHECK.epoch(keeping(9, 0, 0b100000001), 2, 4, 0, 1 << 15, 0xFE, 0, 0, 1);
        CHECK.epoch(keeping(16, 15, 1 << 15), 2, 4, 15, 0, 0x7FFF, 0, 0, 0);
        CHECK.epoch(keeping(16, 8, 1 << 8), 2, 4, 8, 0, 0xFEFF, 0, 0, 0);
        CHECK.epoch(keeping(8, 7, 1 << 7), 2, 3, 7, 0, 0x7F, 0, 0, 0);
        CHECK.epoch(keeping(4, 2, 1 << 2), 2, 2, 2, 0, 0b1011, 0, 0, 0);
        CHECK.epoch(keeping(2, 1, 1 << 1), 2, 1, 1, 0, 0b1, 0, 0, 0);
    }

    private static void shrinkNotBelowZero() {
        CHECK.sentence("while the right half's leaves are all blank, D is one less (not below 0)");
        RatchetGroup x = new RatchetGroup();
        x.remove(0, 0);
        x.remove(0, 1);
        x.commit(0, false);
        CHECK.epoch(x, 1, 0, 0, 0, 0, 0, 0, 0);
        CHECK.node(x, 1, 0, 1, 0, 1, 1);
    }

    private static void grownAgainIsBlank() {
        CHECK.sentence("if there is none, D is one more first (the new top and right half blank; not above 4)");
        RatchetGroup x = Groups.of(4);
        x.commit(3, true);
        Groups.allCome(x, 0, 1, 2);
        CHECK.node(x, 2, 5, 1, 0, 2, 1);
        CHECK.node(x, 2, 3, 1, 0, 2, 1);
        x.remove(0, 2);
        x.remove(0, 3);
        x.commit(0, false);
        CHECK.epoch(x, 3, 1);
        x.add(0, x.offer(7));
        x.commit(0, false);
        CHECK.epoch(x, 4, 2, 0, 0, 0, 0, 0b100, 1);
        CHECK.node(x, 4, 1, 1, 0, 3, 1);
        CHECK.node(x, 4, 3, 0, 0, -1, 2);
        CHECK.node(x, 4, 4, 1, 0, 4, 1);
        CHECK.node(x, 4, 5, 0, 0, -1, 1);
        CHECK.node(x, 4, 6, 0, 0, -1, 0);
        CHECK.holdsJust(x, 0, 1 | 1 << 1);
    }

    private static void updateMakesThePathBlank() {
        CHECK.sentence("All UPDATEs: the leaf has the new key, its path is blank.");
        RatchetGroup x = Groups.of(8);
        x.commit(6, true);
        Groups.allCome(x, 0, 1, 2, 3, 4, 5, 7);
        CHECK.epoch(x, 2, 3, 6, 1 << 13 | 1 << 11 | 1 << 7, 0, 0, 0, 4);
        x.update(7);
        x.commit(0, false);
        CHECK.epoch(x, 3, 3, 0, 1 << 1 | 1 << 3 | 1 << 7, 0, 1 << 7, 0, 7);
        CHECK.node(x, 3, 14, 1, 0, 3, 1);
        CHECK.node(x, 3, 12, 1, 0, 2, 1);
        CHECK.node(x, 3, 13, 0, 0, -1, 2);
        CHECK.node(x, 3, 11, 0, 0, -1, 4);
        CHECK.node(x, 3, 7, 1, 0, 3, 1);
    }

    private static void lowestBlankLeaf() {
        CHECK.sentence("the member has the lowest blank leaf");
        RatchetGroup x = Groups.of(8);
        x.remove(0, 7);
        x.remove(0, 5);
        x.remove(0, 2);
        x.commit(0, false);
        for (int m = 10; m < 14; m++) {
            x.add(0, x.offer(m));
        }
        x.commit(0, false);
        CHECK.epoch(x, 3, 4, 0, 0, 0, 0, 1 << 2 | 1 << 5 | 1 << 7 | 1 << 8, 4);
        int[] leaves = {2, 5, 7, 8};
        for (int i = 0; i < 4; i++) {
            CHECK.same("come", x.come(10 + i), 3);
            CHECK.member(x, 10 + i, 3, leaves[i], 2, 0);
        }
        // Leaf 0 is the lowest one of all.
        RatchetGroup y = Groups.of(2);
        y.remove(1, 0);
        y.add(1, y.offer(5));
        y.commit(1, false);
        CHECK.epoch(y, 2, 1, 1, 0b10, 0b1, 0, 0b1, 2);
        CHECK.same("come(5)", y.come(5), 2);
        CHECK.member(y, 5, 2, 0, 3, 0);
    }

    private static void growAtEachPowerOfTwo() {
        CHECK.sentence("if there is none, D is one more first (the new top and right half blank; not above 4)");
        RatchetGroup x = new RatchetGroup();
        int[] depths = {0, 1, 2, 2, 3, 3, 3, 3, 4, 4, 4, 4, 4, 4, 4, 4};
        for (int m = 1; m < 16; m++) {
            x.add(0, x.offer(m));
            x.commit(0, false);
            CHECK.epoch(x, m, depths[m], 0, 0, 0, 0, 1 << m, 1);
            int top = (1 << depths[m]) - 1;
            CHECK.node(x, m, top, 0, 0, -1, m + 1);
        }
        // Sixteen have a leaf: nobody is left who could be added.
        x.add(0, x.offer(15));
        x.commit(0, false);
        CHECK.epoch(x, 16, 4, 0, TO_THE_TOP_FROM_0, 0, 0, 0, 15);
    }

    private static void unmergedFirstAndLastLeaf() {
        CHECK.sentence("the leaf has the package's leaf key, and is unmerged in each node of its path that has a key");
        RatchetGroup last = Groups.of(15);
        last.add(0, last.offer(15));
        last.commit(0, false);
        CHECK.epoch(last, 2, 4, 0, 0, 0, 0, 1 << 15, 1);
        CHECK.node(last, 2, 15, 1, 1 << 15, 1, 2);
        CHECK.node(last, 2, 29, 0, 0, -1, 2);
        CHECK.node(last, 2, 30, 1, 0, 2, 1);
        RatchetGroup first = Groups.of(3);
        first.remove(1, 0);
        first.commit(2, false);
        CHECK.epoch(first, 2, 2, 2, 0b1000, 0b1, 0, 0, 1);
        first.add(2, first.offer(9));
        first.commit(2, false);
        CHECK.node(first, 3, 3, 1, 0b1, 2, 2);
        CHECK.node(first, 3, 1, 0, 0, -1, 2);
        CHECK.node(first, 3, 0, 1, 0, 3, 1);
    }

    private static void unmergedOnlyWhereThereIsAKey() {
        CHECK.sentence("the leaf has the package's leaf key, and is unmerged in each node of its path that has a key");
        RatchetGroup x = Groups.of(8);
        x.remove(0, 7);
        x.remove(0, 5);
        x.remove(0, 2);
        x.commit(0, false);
        CHECK.epoch(x, 2, 3, 0, 1 << 1 | 1 << 3 | 1 << 7, 0b10100100, 0, 0, 4);
        for (int m = 10; m < 14; m++) {
            x.add(0, x.offer(m));
        }
        x.commit(0, false);
        CHECK.node(x, 3, 1, 1, 0, 2, 1);
        CHECK.node(x, 3, 3, 1, 1 << 2, 2, 2);
        CHECK.node(x, 3, 5, 0, 0, -1, 2);
        CHECK.node(x, 3, 7, 1, 1 << 2 | 1 << 5 | 1 << 7, 2, 4);
        CHECK.node(x, 3, 11, 0, 0, -1, 4);
        CHECK.node(x, 3, 15, 0, 0, -1, 5);
        CHECK.node(x, 3, 16, 1, 0, 3, 1);
        // The tree of the epoch before is as it was.
        CHECK.node(x, 2, 7, 1, 0, 2, 1);
    }

    private static void pathOnlyIfItMust() {
        CHECK.sentence("With a path (asked for, or if a REMOVE or UPDATE goes, or nothing does)");
        RatchetGroup addAsked = Groups.of(2);
        addAsked.add(0, addAsked.offer(2));
        addAsked.commit(0, true);
        CHECK.epoch(addAsked, 2, 2, 0, 0b1010, 0, 0, 0b100, 3);
        CHECK.node(addAsked, 2, 0, 1, 0, 2, 1);
        RatchetGroup addAlone = Groups.of(2);
        addAlone.add(0, addAlone.offer(2));
        addAlone.remove(1, 0);
        addAlone.remove(1, 12);
        addAlone.update(0);
        addAlone.commit(0, false);
        CHECK.epoch(addAlone, 2, 2, 0, 0, 0, 0, 0b100, 1);
        CHECK.node(addAlone, 2, 0, 1, 0, 1, 1);
        CHECK.node(addAlone, 2, 1, 1, 0, 1, 1);
        RatchetGroup addAndRemove = Groups.of(3);
        addAndRemove.add(0, addAndRemove.offer(3));
        addAndRemove.remove(0, 1);
        addAndRemove.commit(0, false);
        CHECK.epoch(addAndRemove, 2, 2, 0, 0b1010, 0b10, 0, 0b10, 3);
        RatchetGroup addAndUpdate = Groups.of(2);
        addAndUpdate.add(0, addAndUpdate.offer(2));
        addAndUpdate.update(1);
        addAndUpdate.commit(0, false);
        CHECK.epoch(addAndUpdate, 2, 2, 0, 0b1010, 0, 0b10, 0b100, 3);
        RatchetGroup nothing = Groups.of(2);
        nothing.commit(1, false);
        CHECK.epoch(nothing, 2, 1, 1, 0b10, 0, 0, 0, 1);
        CHECK.node(nothing, 2, 2, 1, 0, 2, 1);
        RatchetGroup noneGoes = Groups.of(2);
        noneGoes.add(0, 0);
        noneGoes.remove(0, 5);
        noneGoes.update(1);
        noneGoes.commit(1, false);
        CHECK.epoch(noneGoes, 2, 1, 1, 0b10, 0, 0, 0, 1);
    }

    private static void pathNodesThatDoNotCount() {
        CHECK.sentence("of its path those nodes count of which the one below that is not above the committer "
            + "has a resolution that is not empty; the others are blank");
        RatchetGroup x = Groups.of(5);
        x.commit(4, true);
        CHECK.epoch(x, 2, 3, 4, 1 << 7, 0, 0, 0, 1);
        CHECK.node(x, 2, 9, 0, 0, -1, 1);
        CHECK.node(x, 2, 11, 0, 0, -1, 1);
        CHECK.node(x, 2, 7, 1, 0, 2, 1);
        // One that counts below one that does not.
        RatchetGroup y = Groups.of(6);
        y.commit(4, true);
        CHECK.epoch(y, 2, 3, 4, 1 << 9 | 1 << 7, 0, 0, 0, 2);
        CHECK.node(y, 2, 11, 0, 0, -1, 1);
        Groups.allCome(y, 5, 0);
        CHECK.holdsJust(y, 5, 1 << 10 | 1 << 9 | 1 << 7);
        CHECK.holdsJust(y, 0, 1 | 1 << 1 | 1 << 3 | 1 << 7);
        // What is beside it is a leaf that is added now: it counts.
        y.add(4, y.offer(6));
        y.commit(4, true);
        CHECK.epoch(y, 3, 3, 4, 1 << 9 | 1 << 11 | 1 << 7, 0, 0, 1 << 6, 2 + 2);
    }

    private static void nothingCounts() {
        CHECK.sentence("c is NEXT of the last path secret (FRESH, if none counts). Without a path c is ZERO.");
        RatchetGroup alone = new RatchetGroup();
        alone.compromise(0);
        alone.commit(0, true);
        CHECK.epoch(alone, 1, 0, 0, 0, 0, 0, 0, 0);
        CHECK.known(alone, 0);
        RatchetGroup last = Groups.of(16);
        last.compromise(15);
        for (int leaf = 0; leaf < 15; leaf++) {
            last.remove(15, leaf);
        }
        last.commit(15, false);
        CHECK.epoch(last, 2, 4, 15, 0, 0x7FFF, 0, 0, 0);
        CHECK.known(last, 1);
        CHECK.openJust(last, 2, 0);
        // Without a path there is nothing new in it: who knows the secret before knows this one.
        RatchetGroup zero = new RatchetGroup();
        zero.compromise(0);
        zero.add(0, zero.offer(1));
        zero.commit(0, false);
        CHECK.known(zero, 0, 1);
        RatchetGroup unknown = new RatchetGroup();
        unknown.add(0, unknown.offer(1));
        unknown.commit(0, false);
        CHECK.known(unknown);
    }

    private static void addedLeavesAreLeftOut() {
        CHECK.sentence("its path secret is ENCRYPTED for the key of each node of that resolution "
            + "but for leaves that were added in this commit");
        // All that is beside the top was added now: it counts, and is encrypted for nobody there.
        RatchetGroup all = Groups.of(2);
        all.add(0, all.offer(2));
        all.add(0, all.offer(3));
        all.commit(0, true);
        CHECK.epoch(all, 2, 2, 0, 0b1010, 0, 0, 0b1100, 1 + 4);
        all.commit(0, true);
        CHECK.epoch(all, 3, 2, 0, 0b1010, 0, 0, 0, 1 + 2);
        // Unmerged since now in a node that has a key: the node is told, the leaf is not.
        RatchetGroup unmerged = Groups.of(5);
        unmerged.remove(0, 2);
        unmerged.commit(0, true);
        unmerged.come(4);
        unmerged.add(4, unmerged.offer(2));
        unmerged.commit(4, true);
        CHECK.node(unmerged, 3, 3, 1, 0b100, 2, 2);
        CHECK.epoch(unmerged, 3, 3, 4, 1 << 7, 0, 0, 0b100, 1 + 2);
        unmerged.commit(4, true);
        CHECK.epoch(unmerged, 4, 3, 4, 1 << 7, 0, 0, 0, 2);
    }

    private static void welcomes() {
        CHECK.sentence("For each ADD, j is ENCRYPTED for the package's first key, "
            + "and with a path also the path secret of the lowest node that counts and is above its leaf.");
        RatchetGroup none = new RatchetGroup();
        for (int m = 1; m < 16; m++) {
            none.add(0, none.offer(m));
        }
        none.commit(0, false);
        CHECK.epoch(none, 1, 4, 0, 0, 0, 0, 0xFFFE, 15);
        CHECK.epoch(Groups.of(16), 1, 4, 0, TO_THE_TOP_FROM_0, 0, 0, 0xFFFE, 30);
        // The first key alone opens the secret and, with a path, the keys over its leaf.
        RatchetGroup x = new RatchetGroup();
        for (int m = 1; m < 5; m++) {
            x.add(0, x.offer(m));
        }
        x.compromise(2);
        x.commit(0, true);
        CHECK.known(x, 1);
        CHECK.openJust(x, 1, 1 << 4 | 1 << 3 | 1 << 7);
    }
}
