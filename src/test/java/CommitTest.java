/** Promises 6, 12 and 13: what a commit makes of the proposals, the tree and the path. */
public final class CommitTest {
    private static final Check CHECK = new Check();

    public static void main(String[] args) {
        wrongCommits();
        firstPath();
        addWithoutPath();
        pathBeyondAdded();
        removesThatGo();
        updatesThatGo();
        addsThatGo();
        pathIfNothingGoes();
        shrinkAndGrow();
        lowestBlankLeaf();
        removedAndAddedAtOnce();
        wholeTree();
        wrongQuestions();
        CHECK.finish();
    }

    private static void wrongCommits() {
        RatchetGroup x = Groups.of(2);
        for (int m : new int[] {-1, 16, Integer.MAX_VALUE, Integer.MIN_VALUE}) {
            CHECK.throwsIndex("commit(" + m + ", true)", () -> x.commit(m, true));
        }
        CHECK.throwsState("commit(2, true)", () -> x.commit(2, true));
        CHECK.same("commit(1, false)", x.commit(1, false), 2);
        CHECK.throwsState("commit(0, true)", () -> x.commit(0, true));
        CHECK.same("epochs()", x.epochs(), 3);
    }

    private static void firstPath() {
        RatchetGroup x = Groups.of(4);
        CHECK.epoch(x, 1, 2, 0, 0b1010, 0, 0, 0b1110, 6, -1);
        CHECK.node(x, 1, 0, 1, 0, 1, 1);
        CHECK.node(x, 1, 1, 1, 0, 1, 1);
        CHECK.node(x, 1, 2, 1, 0, 1, 1);
        CHECK.node(x, 1, 3, 1, 0, 1, 1);
        CHECK.node(x, 1, 5, 0, 0, -1, 2, -1);
        CHECK.node(x, 1, 6, 1, 0, 1, 1);
        CHECK.node(x, 1, 7, -1, -1, -1, -1);
    }

    private static RatchetGroup threeAndAPathByTwo() {
        RatchetGroup x = Groups.of(3);
        x.commit(2, true);
        Groups.allCome(x, 0, 1);
        return x;
    }

    private static void addWithoutPath() {
        RatchetGroup x = threeAndAPathByTwo();
        CHECK.epoch(x, 2, 2, 2, 0b1000, 0, 0, 0, 1);
        CHECK.node(x, 2, 5, 0, 0, -1, 1);
        x.add(0, x.offer(3));
        x.commit(0, false);
        CHECK.epoch(x, 3, 2, 0, 0, 0, 0, 0b1000, 1);
        CHECK.node(x, 3, 6, 1, 0, 3, 1);
        CHECK.node(x, 3, 5, 0, 0, -1, 2);
        CHECK.node(x, 3, 3, 1, 0b1000, 2, 2);
        CHECK.node(x, 3, 0, 1, 0, 1, 1);
        CHECK.node(x, 2, 3, 1, 0, 2, 1);
        Groups.allCome(x, 1, 2, 3);
        x.commit(1, false);
        CHECK.epoch(x, 4, 2, 1, 0b1010, 0, 0, 0, 3);
        CHECK.node(x, 4, 3, 1, 0, 4, 1);
    }

    private static void pathBeyondAdded() {
        RatchetGroup x = threeAndAPathByTwo();
        x.add(0, x.offer(3));
        x.commit(0, true);
        CHECK.epoch(x, 3, 2, 0, 0b1010, 0, 0, 0b1000, 4);
        // An added leaf is left out where a node has it unmerged, too, and told of there later.
        RatchetGroup y = Groups.of(5);
        y.remove(0, 2);
        y.commit(0, true);
        y.come(4);
        y.add(4, y.offer(2));
        y.commit(4, true);
        CHECK.epoch(y, 3, 3, 4, 1 << 7, 0, 0, 0b100, 3);
        CHECK.node(y, 3, 3, 1, 0b100, 2, 2);
        CHECK.node(y, 3, 7, 1, 0, 3, 1);
        y.commit(4, true);
        CHECK.epoch(y, 4, 3, 4, 1 << 7, 0, 0, 0, 2);
    }

    private static void removesThatGo() {
        RatchetGroup x = Groups.of(4);
        x.remove(1, 2);
        x.remove(1, 1);
        x.remove(0, 2);
        x.remove(0, 9);
        CHECK.same("commit(1, false)", x.commit(1, false), 2);
        CHECK.epoch(x, 2, 2, 1, 0b1010, 0b100, 0, 0, 2);
        CHECK.node(x, 2, 4, 0, 0, -1, 0);
        CHECK.node(x, 2, 5, 0, 0, -1, 1);
        CHECK.node(x, 2, 3, 1, 0, 2, 1);
        CHECK.same("member(2, 0)", x.member(2, 0), -1);
        CHECK.same("member(2, 1)", x.member(2, 1), -1);
        CHECK.same("member(2, 2)", x.member(2, 2), 0);
        // A path node beside which nothing is left is blank.
        x.commit(1, false);
        Groups.allCome(x, 0, 0, 3, 3);
        x.remove(3, 0);
        x.commit(3, false);
        CHECK.epoch(x, 4, 2, 3, 0b1000, 0b1, 0, 0, 1);
        CHECK.node(x, 4, 1, 0, 0, -1, 1);
        CHECK.node(x, 4, 5, 0, 0, -1, 1);
        CHECK.same("come(1)", x.come(1), 4);
        CHECK.no("holds(1, 1)", x.holds(1, 1));
        CHECK.yes("holds(1, 3)", x.holds(1, 3));
    }

    private static void updatesThatGo() {
        RatchetGroup x = Groups.of(4);
        x.update(1);
        x.update(2);
        x.remove(0, 2);
        x.update(0);
        x.update(1);
        x.commit(0, false);
        CHECK.epoch(x, 2, 2, 0, 0b1010, 0b100, 0b10, 0, 2);
        CHECK.node(x, 2, 2, 1, 0, 2, 1);
        RatchetGroup y = Groups.of(4);
        y.commit(3, true);
        Groups.allCome(y, 0, 1, 2);
        CHECK.node(y, 2, 5, 1, 0, 2, 1);
        CHECK.node(y, 2, 1, 1, 0, 1, 1);
        y.update(2);
        y.commit(0, false);
        CHECK.epoch(y, 3, 2, 0, 0b1010, 0, 0b100, 0, 3);
        CHECK.node(y, 3, 5, 0, 0, -1, 2);
        CHECK.node(y, 3, 4, 1, 0, 3, 1);
        CHECK.node(y, 3, 6, 1, 0, 2, 1);
        // An UPDATE asks for a path, whatever else goes with it.
        RatchetGroup z = Groups.of(2);
        z.update(1);
        z.add(0, z.offer(2));
        z.commit(0, false);
        CHECK.epoch(z, 2, 2, 0, 0b1010, 0, 0b10, 0b100, 3);
    }

    private static void addsThatGo() {
        RatchetGroup x = Groups.of(2);
        int ofOne = x.offer(1);
        int ofTwo = x.offer(2);
        int againOfTwo = x.offer(2);
        x.add(0, ofOne);
        x.add(0, againOfTwo);
        x.add(0, ofTwo);
        x.add(0, againOfTwo);
        x.commit(0, false);
        CHECK.epoch(x, 2, 2, 0, 0, 0, 0, 0b100, 1);
        CHECK.same("come(2)", x.come(2), 2);
        CHECK.same("member(2, 2) by the package named first", x.member(2, 2), 4);
        x.remove(0, 2);
        x.commit(0, false);
        x.add(0, againOfTwo);
        x.commit(0, false);
        CHECK.epoch(x, 4, 1, 0, 0b10, 0, 0, 0, 1);
        x.add(0, ofTwo);
        x.commit(0, false);
        CHECK.epoch(x, 5, 2, 0, 0, 0, 0, 0b100, 1);
        // Member 1 is in an old epoch: what it is removed from, it must come to before it is added.
        x.remove(0, 1);
        x.add(0, ofOne);
        x.commit(0, false);
        CHECK.epoch(x, 6, 2, 0, 0b1000, 0b10, 0, 0, 1);
        x.add(0, ofOne);
        x.commit(0, false);
        CHECK.epoch(x, 7, 2, 0, 0b1000, 0, 0, 0, 1);
        Groups.allCome(x, 1, 1, 1, 1);
        CHECK.same("member(1, 0)", x.member(1, 0), 5);
        CHECK.same("come(1)", x.come(1), -1);
        x.add(0, ofOne);
        x.commit(0, true);
        CHECK.epoch(x, 8, 2, 0, 0b1010, 0, 0, 0b10, 3);
        CHECK.same("come(1)", x.come(1), 8);
    }

    private static void pathIfNothingGoes() {
        RatchetGroup x = Groups.of(2);
        x.update(0);
        x.remove(0, 0);
        x.remove(1, 7);
        x.add(0, 0);
        CHECK.same("member(0, 2)", x.member(0, 2), 4);
        x.commit(0, false);
        CHECK.epoch(x, 2, 1, 0, 0b10, 0, 0, 0, 1);
        CHECK.same("member(0, 2)", x.member(0, 2), 3);
        CHECK.node(x, 2, 0, 1, 0, 2, 1);
        // With an ADD that goes there is no path, and its own UPDATE is dropped all the same.
        x.update(0);
        x.add(0, x.offer(2));
        x.commit(0, false);
        CHECK.epoch(x, 3, 2, 0, 0, 0, 0, 0b100, 1);
        CHECK.node(x, 3, 0, 1, 0, 2, 1);
        CHECK.same("member(0, 2)", x.member(0, 2), 3);
        CHECK.yes("holds(0, 1)", x.holds(0, 1));
        RatchetGroup alone = new RatchetGroup();
        alone.commit(0, false);
        CHECK.epoch(alone, 1, 0, 0, 0, 0, 0, 0, 0);
        CHECK.node(alone, 1, 0, 1, 0, 1, 1);
        CHECK.same("member(0, 2)", alone.member(0, 2), 2);
        CHECK.yes("has(0)", alone.has(0));
    }

    private static void shrinkAndGrow() {
        RatchetGroup x = Groups.of(6);
        CHECK.epoch(x, 1, 3, 0, 0b10001010, 0, 0, 0b111110, 10);
        x.remove(0, 4);
        x.remove(0, 5);
        x.remove(0, 2);
        x.remove(0, 3);
        x.commit(1, false);
        CHECK.epoch(x, 2, 1, 1, 0b10, 0b111100, 0, 0, 1);
        CHECK.node(x, 2, 3, -1);
        CHECK.same("come(0)", x.come(0), 2);
        CHECK.same("member(0, 2)", x.member(0, 2), 3);
        // Shrunk and grown in one commit: the top is a new one.
        x.remove(0, 1);
        x.add(0, x.offer(2));
        x.add(0, x.offer(3));
        x.commit(0, false);
        CHECK.epoch(x, 3, 2, 0, 0b1010, 0b10, 0, 0b110, 4);
        CHECK.same("come(2)", x.come(2), 3);
        CHECK.same("member(2, 1)", x.member(2, 1), 1);
        CHECK.yes("holds(2, 1)", x.holds(2, 1));
        CHECK.same("come(3)", x.come(3), 3);
        CHECK.no("holds(3, 1)", x.holds(3, 1));
        CHECK.yes("holds(3, 3)", x.holds(3, 3));
        // The right half stays if its last leaf does, whatever the left one holds.
        RatchetGroup y = Groups.of(4);
        y.remove(3, 0);
        y.remove(3, 1);
        y.remove(3, 2);
        y.commit(3, false);
        CHECK.epoch(y, 2, 2, 3, 0, 0b111, 0, 0, 0);
        CHECK.node(y, 2, 3, 0, 0, -1, 1);
        CHECK.yes("has(3)", y.has(3));
        CHECK.same("member(3, 2)", y.member(3, 2), 2);
    }

    private static void lowestBlankLeaf() {
        RatchetGroup x = Groups.of(4);
        x.remove(0, 1);
        x.commit(0, false);
        Groups.allCome(x, 2, 3);
        x.add(2, x.offer(5));
        x.add(2, x.offer(4));
        x.commit(2, false);
        CHECK.epoch(x, 3, 3, 2, 0, 0, 0, 0b10010, 2);
        CHECK.same("come(5)", x.come(5), 3);
        CHECK.same("member(5, 1)", x.member(5, 1), 1);
        CHECK.same("come(4)", x.come(4), 3);
        CHECK.same("member(4, 1)", x.member(4, 1), 4);
        CHECK.node(x, 3, 1, 0, 0, -1, 2);
        CHECK.node(x, 3, 3, 1, 0b10, 2, 2);
        CHECK.node(x, 3, 7, 0, 0, -1, 3);
    }

    private static void removedAndAddedAtOnce() {
        RatchetGroup x = Groups.of(2);
        x.add(0, x.offer(1));
        x.remove(1, 1);
        x.commit(0, false);
        CHECK.epoch(x, 2, 1, 0, 0b10, 0b10, 0, 0b10, 2);
        CHECK.same("member(1, 0)", x.member(1, 0), -1);
        CHECK.same("member(1, 2)", x.member(1, 2), 2);
        CHECK.same("come(1)", x.come(1), 2);
        CHECK.same("member(1, 2)", x.member(1, 2), 3);
    }

    private static void wholeTree() {
        RatchetGroup x = Groups.of(16);
        CHECK.epoch(x, 1, 4, 0, 1 << 1 | 1 << 3 | 1 << 7 | 1 << 15, 0, 0, 0xFFFE, 30);
        CHECK.node(x, 1, 15, 1, 0, 1, 1);
        CHECK.node(x, 1, 23, 0, 0, -1, 8);
        CHECK.node(x, 1, 30, 1, 0, 1, 1);
        CHECK.node(x, 1, 31, -1);
        x.add(3, x.offer(3));
        x.commit(15, false);
        CHECK.epoch(x, 2, 4, 15, 1 << 29 | 1 << 27 | 1 << 23 | 1 << 15, 0, 0, 0, 1 + 2 + 4 + 1);
        for (int m = 0; m < 15; m++) {
            CHECK.same("come(m)", x.come(m), 2);
            CHECK.same("member(m, 3)", x.member(m, 3), 0);
        }
    }

    private static void wrongQuestions() {
        RatchetGroup x = Groups.of(2);
        for (int wrong : new int[] {-1, 2, Integer.MAX_VALUE, Integer.MIN_VALUE}) {
            CHECK.same("epoch(" + wrong + ", 0)", x.epoch(wrong, 0), -1);
            CHECK.same("node(" + wrong + ", 0, 0)", x.node(wrong, 0, 0), -1);
        }
        for (int wrong : new int[] {-1, 7, Integer.MAX_VALUE, Integer.MIN_VALUE}) {
            CHECK.same("epoch(0, " + wrong + ")", x.epoch(0, wrong), -1);
            CHECK.same("node(0, 0, " + wrong + ")", x.node(0, 0, wrong), -1);
            for (int what = 0; what < 4; what++) {
                CHECK.same("node(0, " + wrong + ", what)", x.node(0, wrong, what), -1);
            }
        }
        CHECK.same("node(1, 3, 0)", x.node(1, 3, 0), -1);
        CHECK.same("node(0, 2, 3)", x.node(0, 2, 3), -1);
    }
}
