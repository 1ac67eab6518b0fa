/** The boundary cases that promises 1 to 18 name: too small, too large, full, empty, refused. */
public final class BoundaryCallsTest {
    private static final Check CHECK = new Check();
    private static final int[] FAR = {Integer.MIN_VALUE, -61, -2, -1, 60, 61, 512, Integer.MAX_VALUE};

    public static void main(String[] args) {
        newObject();
        newObjectsShareNothing();
        offerByNoSuchMember();
        offerWhenThereAre60();
        addByNoSuchMember();
        addOfNoSuchPackage();
        proposalsByWhoIsNotInTheLatestEpoch();
        proposalsWhen20Wait();
        proposalsOfEachKindUpTo20();
        removeOfNoSuchLeaf();
        updateByNoSuchMember();
        commitByNoSuchMember();
        commitByWhoIsNotInTheLatestEpoch();
        commitWhenThereAre60();
        comeOfNoSuchMember();
        comeOfWhoIsInTheLatestEpoch();
        comeOfWhoWasNotAdded();
        comeOfWhoWasRemoved();
        indexBeforeState();
        compromiseOfNoSuchMember();
        compromiseOfWhoHoldsNothing();
        compromiseOfWhoHoldsTheMost();
        compromiseAgainAndAgain();
        memberInNone();
        memberOfAnotherWhatOrMember();
        holdsOfWhoIsInNoEpoch();
        holdsOfNoSuchNode();
        holdsInItsOwnTree();
        hasOfWhoIsInNoEpoch();
        nodeOfNoSuchOne();
        nodeThatIsBlank();
        epochZero();
        epochOfNoSuchOne();
        epochsAndWaiting();
        isKnownOfNoSuchEpoch();
        isOpenOfNoSuchNode();
        knownFromNoneToAll();
        questionsChangeNothing();
        CHECK.finish();
    }

    private static void newObject() {
        CHECK.sentence("Epoch 0: D is 0, member 0 is at leaf 0 with a FRESH key; the epoch's secret is FRESH.");
        RatchetGroup x = new RatchetGroup();
        CHECK.epoch(x, 0, 0, -1, 0, 0, 0, 0, 0, -1);
        CHECK.node(x, 0, 0, 1, 0, 0, 1, -1);
        CHECK.node(x, 0, 1, -1, -1, -1, -1, -1);
        CHECK.member(x, 0, 0, 0, 2, 0, -1);
        CHECK.holdsJust(x, 0, 1);
        CHECK.yes("has(0)", x.has(0));
        CHECK.known(x);
        CHECK.openJust(x, 0, 0);
        for (int m = 1; m < 16; m++) {
            CHECK.member(x, m, -1, -1, 0, 0, -1);
            CHECK.holdsJust(x, m, 0);
            CHECK.no("has(" + m + ")", x.has(m));
        }
    }

    private static void newObjectsShareNothing() {
        RatchetGroup x = new RatchetGroup();
        String fresh = Groups.picture(x);
        RatchetGroup y = Groups.of(16);
        y.compromise(0);
        y.update(3);
        CHECK.yes("a new object is as new when another is used", Groups.picture(x).equals(fresh));
        CHECK.yes("a new object made later is as new", Groups.picture(new RatchetGroup()).equals(fresh));
        CHECK.same("offer(1)", x.offer(1), 0);
        CHECK.same("commit(0, false)", x.commit(0, false), 1);
    }

    private static void offerByNoSuchMember() {
        CHECK.sentence("A member makes a PACKAGE: its number. IndexOutOfBoundsException: no such member.");
        RatchetGroup x = new RatchetGroup();
        for (int wrong : Groups.NOT_TO_15) {
            CHECK.refusedIndex(x, "offer(" + wrong + ")", () -> x.offer(wrong));
        }
        for (int m = 0; m < 16; m++) {
            CHECK.same("offer(" + m + ")", x.offer(m), m);
        }
    }

    private static void offerWhenThereAre60() {
        CHECK.sentence("IllegalStateException: there are 60.");
        RatchetGroup x = new RatchetGroup();
        for (int i = 0; i < 60; i++) {
            CHECK.same("offer(5)", x.offer(5), i);
        }
        CHECK.refusedState(x, "offer(5)", () -> x.offer(5));
        CHECK.refusedState(x, "offer(0)", () -> x.offer(0));
        CHECK.same("member(5, 2)", x.member(5, 2), 120);
        // Packages that are used, and such as were joined by, are there all the same.
        x.add(0, 59);
        x.commit(0, false);
        CHECK.refusedState(x, "offer(5)", () -> x.offer(5));
        x.come(5);
        CHECK.refusedState(x, "offer(5)", () -> x.offer(5));
        CHECK.same("member(5, 2)", x.member(5, 2), 118 + 2);
    }

    private static void addByNoSuchMember() {
        CHECK.sentence("IndexOutOfBoundsException: no such member or package.");
        RatchetGroup x = new RatchetGroup();
        x.offer(1);
        for (int wrong : Groups.NOT_TO_15) {
            CHECK.refusedIndex(x, "add(" + wrong + ", 0)", () -> x.add(wrong, 0));
        }
    }

    private static void addOfNoSuchPackage() {
        CHECK.sentence("IndexOutOfBoundsException: no such member or package.");
        RatchetGroup x = new RatchetGroup();
        CHECK.refusedIndex(x, "add(0, 0) when there is none", () -> x.add(0, 0));
        for (int made = 1; made <= 60; made++) {
            int next = made;
            x.offer(1);
            CHECK.throwsIndex("add(0, " + next + ")", () -> x.add(0, next));
        }
        for (int wrong : FAR) {
            CHECK.refusedIndex(x, "add(0, " + wrong + ")", () -> x.add(0, wrong));
        }
        CHECK.same("add(0, 59)", x.add(0, 59), 1);
        CHECK.same("add(0, 0)", x.add(0, 0), 2);
    }

    private static void proposalsAreRefused(RatchetGroup x, int m) {
        CHECK.refusedState(x, "add(" + m + ", 0)", () -> x.add(m, 0));
        CHECK.refusedState(x, "remove(" + m + ", 0)", () -> x.remove(m, 0));
        CHECK.refusedState(x, "remove(" + m + ", 15)", () -> x.remove(m, 15));
        CHECK.refusedState(x, "update(" + m + ")", () -> x.update(m));
    }

    private static void proposalsByWhoIsNotInTheLatestEpoch() {
        CHECK.sentence("IllegalStateException: the member is not in the latest epoch, or 20 wait.");
        RatchetGroup x = new RatchetGroup();
        x.offer(1);
        proposalsAreRefused(x, 1);
        proposalsAreRefused(x, 15);
        x.add(0, 0);
        proposalsAreRefused(x, 1);
        x.commit(0, true);
        // Added, but not there yet.
        proposalsAreRefused(x, 1);
        x.come(1);
        CHECK.same("update(1)", x.update(1), 1);
        // One epoch behind, and two.
        x.commit(1, true);
        proposalsAreRefused(x, 0);
        x.commit(1, true);
        proposalsAreRefused(x, 0);
        x.come(0);
        proposalsAreRefused(x, 0);
        x.come(0);
        CHECK.same("update(0)", x.update(0), 1);
        CHECK.same("remove(0, 1)", x.remove(0, 1), 2);
        x.commit(0, false);
        // Removed.
        proposalsAreRefused(x, 1);
    }

    private static void proposalsWhen20Wait() {
        CHECK.sentence("wait in a row, at most 20");
        RatchetGroup x = Groups.of(2);
        for (int i = 1; i <= 20; i++) {
            CHECK.same("remove(1, 15)", x.remove(1, 15), i);
            CHECK.same("waiting()", x.waiting(), i);
        }
        proposalsAreRefused(x, 0);
        proposalsAreRefused(x, 1);
        CHECK.same("commit(0, true)", x.commit(0, true), 2);
        CHECK.same("waiting()", x.waiting(), 0);
        CHECK.same("update(0)", x.update(0), 1);
    }

    private static void proposalsOfEachKindUpTo20() {
        CHECK.sentence("ADD is proposed: how many proposals wait.");
        RatchetGroup adds = Groups.of(2);
        for (int i = 1; i <= 20; i++) {
            CHECK.same("add(0, 0) of a package that is used", adds.add(0, 0), i);
        }
        proposalsAreRefused(adds, 0);
        CHECK.sentence("UPDATE is proposed: how many wait.");
        RatchetGroup updates = Groups.of(2);
        for (int i = 1; i <= 20; i++) {
            CHECK.same("update(1)", updates.update(1), i);
            CHECK.same("member(1, 2)", updates.member(1, 2), 3 + i);
        }
        proposalsAreRefused(updates, 1);
        CHECK.same("compromise(1)", updates.compromise(1), 23);
    }

    private static void removeOfNoSuchLeaf() {
        CHECK.sentence("IndexOutOfBoundsException: no such member, or leaf (0 .. 15).");
        RatchetGroup x = new RatchetGroup();
        for (int wrong : Groups.NOT_TO_15) {
            CHECK.refusedIndex(x, "remove(0, " + wrong + ")", () -> x.remove(0, wrong));
            CHECK.refusedIndex(x, "remove(" + wrong + ", 0)", () -> x.remove(wrong, 0));
        }
        // A leaf that the tree has not may be named all the same.
        for (int leaf = 0; leaf < 16; leaf++) {
            CHECK.same("remove(0, " + leaf + ")", x.remove(0, leaf), leaf + 1);
        }
    }

    private static void updateByNoSuchMember() {
        CHECK.sentence("UPDATE is proposed: how many wait. IndexOutOfBoundsException: no such member.");
        RatchetGroup x = Groups.of(16);
        for (int wrong : Groups.NOT_TO_15) {
            CHECK.refusedIndex(x, "update(" + wrong + ")", () -> x.update(wrong));
        }
        for (int m = 0; m < 16; m++) {
            CHECK.same("update(" + m + ")", x.update(m), m + 1);
        }
    }

    private static void commitByNoSuchMember() {
        CHECK.sentence("COMMIT: the new epoch's number. IndexOutOfBoundsException: no such member.");
        RatchetGroup x = Groups.of(16);
        x.update(3);
        for (int wrong : Groups.NOT_TO_15) {
            CHECK.refusedIndex(x, "commit(" + wrong + ", true)", () -> x.commit(wrong, true));
            CHECK.refusedIndex(x, "commit(" + wrong + ", false)", () -> x.commit(wrong, false));
        }
        CHECK.same("commit(15, true)", x.commit(15, true), 2);
        CHECK.same("come(0)", x.come(0), 2);
        CHECK.same("commit(0, true)", x.commit(0, true), 3);
    }

    private static void commitByWhoIsNotInTheLatestEpoch() {
        CHECK.sentence("IllegalStateException: it is not in the latest epoch, or there are 60 epochs.");
        RatchetGroup x = new RatchetGroup();
        x.add(0, x.offer(1));
        CHECK.refusedState(x, "commit(1, true)", () -> x.commit(1, true));
        x.commit(0, true);
        x.update(0);
        CHECK.refusedState(x, "commit(1, true) before it has joined", () -> x.commit(1, true));
        x.come(1);
        x.commit(0, true);
        CHECK.refusedState(x, "commit(1, false) from behind", () -> x.commit(1, false));
        x.come(1);
        x.remove(0, 1);
        x.commit(0, false);
        CHECK.refusedState(x, "commit(1, true) of who was removed", () -> x.commit(1, true));
        CHECK.same("epochs()", x.epochs(), 4);
    }

    private static void commitWhenThereAre60() {
        CHECK.sentence("IllegalStateException: it is not in the latest epoch, or there are 60 epochs.");
        RatchetGroup x = Groups.of(2);
        for (int e = 2; e < 60; e++) {
            CHECK.same("commit(0, true)", x.commit(0, true), e);
        }
        x.offer(2);
        x.add(0, 1);
        x.remove(0, 1);
        x.update(0);
        CHECK.refusedState(x, "commit(0, true)", () -> x.commit(0, true));
        CHECK.refusedState(x, "commit(0, false)", () -> x.commit(0, false));
        CHECK.refusedState(x, "commit(1, true) from behind", () -> x.commit(1, true));
        CHECK.same("waiting()", x.waiting(), 3);
        CHECK.member(x, 0, 59, 0, 4);
        CHECK.member(x, 1, 1, 1, 3);
        CHECK.refusedState(x, "come(2)", () -> x.come(2));
    }

    private static void comeOfNoSuchMember() {
        CHECK.sentence("NONE if it was removed. IndexOutOfBoundsException: no such member.");
        RatchetGroup x = Groups.of(16);
        x.commit(3, true);
        for (int wrong : Groups.NOT_TO_15) {
            CHECK.refusedIndex(x, "come(" + wrong + ")", () -> x.come(wrong));
        }
        CHECK.same("come(0)", x.come(0), 2);
        CHECK.same("come(15)", x.come(15), 2);
    }

    private static void comeOfWhoIsInTheLatestEpoch() {
        CHECK.sentence("IllegalStateException: it is in the latest epoch, or in none and was not added.");
        RatchetGroup x = new RatchetGroup();
        CHECK.refusedState(x, "come(0) in epoch 0", () -> x.come(0));
        x.add(0, x.offer(1));
        x.commit(0, true);
        CHECK.refusedState(x, "come(0) of the committer", () -> x.come(0));
        x.come(1);
        CHECK.refusedState(x, "come(1) of who has just joined", () -> x.come(1));
        x.commit(1, false);
        x.come(0);
        CHECK.refusedState(x, "come(0) of who has just come", () -> x.come(0));
        // A second package by which it was not added leads nowhere.
        x.offer(0);
        CHECK.refusedState(x, "come(0) with a package", () -> x.come(0));
    }

    private static void comeOfWhoWasNotAdded() {
        CHECK.sentence("IllegalStateException: it is in the latest epoch, or in none and was not added.");
        RatchetGroup x = Groups.of(2);
        CHECK.refusedState(x, "come(2)", () -> x.come(2));
        x.offer(2);
        CHECK.refusedState(x, "come(2) with a package", () -> x.come(2));
        x.add(0, 1);
        CHECK.refusedState(x, "come(2) while its ADD waits", () -> x.come(2));
        x.commit(0, true);
        CHECK.same("come(2)", x.come(2), 2);
        x.offer(2);
        x.remove(0, 2);
        x.commit(0, true);
        CHECK.refusedState(x, "come(2) of who has joined and was removed", () -> x.come(2));
        // An ADD that does not go adds nobody: this package is used.
        x.add(0, 1);
        x.commit(0, true);
        CHECK.refusedState(x, "come(2) when its ADD did not go", () -> x.come(2));
    }

    private static void comeOfWhoWasRemoved() {
        CHECK.sentence("its epoch then; NONE if it was removed.");
        RatchetGroup x = Groups.of(3);
        x.commit(0, true);
        x.remove(0, 1);
        x.commit(0, false);
        x.commit(0, true);
        CHECK.same("come(1)", x.come(1), 2);
        CHECK.same("come(1)", x.come(1), -1);
        CHECK.refusedState(x, "come(1)", () -> x.come(1));
        CHECK.same("come(2)", x.come(2), 2);
        CHECK.same("come(2)", x.come(2), 3);
        CHECK.same("come(2)", x.come(2), 4);
    }

    /** Both exceptions would do by the document; the one that it names first is thrown. */
    private static void indexBeforeState() {
        CHECK.sentence("IndexOutOfBoundsException: no such member. IllegalStateException: as for add().");
        RatchetGroup x = Groups.of(2);
        for (int i = 0; i < 20; i++) {
            x.remove(0, 15);
        }
        CHECK.refusedIndex(x, "add(16, 0)", () -> x.add(16, 0));
        CHECK.refusedIndex(x, "add(0, 1)", () -> x.add(0, 1));
        CHECK.refusedIndex(x, "add(7, 1)", () -> x.add(7, 1));
        CHECK.refusedIndex(x, "remove(16, 0)", () -> x.remove(16, 0));
        CHECK.refusedIndex(x, "remove(0, 16)", () -> x.remove(0, 16));
        CHECK.refusedIndex(x, "remove(7, 16)", () -> x.remove(7, 16));
        CHECK.refusedIndex(x, "update(-1)", () -> x.update(-1));
    }

    private static void compromiseOfNoSuchMember() {
        CHECK.sentence("how many different secrets it holds. IndexOutOfBoundsException: no such member.");
        RatchetGroup x = Groups.of(16);
        for (int wrong : Groups.NOT_TO_15) {
            CHECK.refusedIndex(x, "compromise(" + wrong + ")", () -> x.compromise(wrong));
        }
        CHECK.same("compromise(15)", x.compromise(15), 3);
        CHECK.same("compromise(0)", x.compromise(0), 6);
    }

    private static void compromiseOfWhoHoldsNothing() {
        CHECK.sentence("A member is COMPROMISED: how many different secrets it holds.");
        RatchetGroup x = Groups.of(2);
        // What was counted of another one just before is not told with it.
        CHECK.member(x, 0, 1, 0, 3, 0);
        CHECK.same("compromise(2)", x.compromise(2), 0);
        CHECK.known(x);
        CHECK.openJust(x, 1, 0);
        x.remove(0, 1);
        x.commit(0, false);
        CHECK.same("compromise(1) of who was removed", x.compromise(1), 0);
        CHECK.known(x);
        x.offer(1);
        CHECK.same("compromise(1) with a package", x.compromise(1), 2);
        CHECK.same("compromise(1) once more", x.compromise(1), 2);
        CHECK.known(x);
    }

    private static void compromiseOfWhoHoldsTheMost() {
        CHECK.sentence("A member is COMPROMISED: how many different secrets it holds.");
        RatchetGroup x = new RatchetGroup();
        x.add(0, x.offer(1));
        x.commit(0, true);
        x.come(1);
        for (int i = 1; i < 60; i++) {
            x.offer(0);
        }
        for (int i = 0; i < 20; i++) {
            x.update(0);
        }
        int most = 1 + 2 + 20 + 118;
        CHECK.member(x, 0, 1, 0, most, 0);
        CHECK.same("compromise(0)", x.compromise(0), most);
        CHECK.known(x, 1);
        x.commit(1, false);
        CHECK.known(x, 1, 2);
        x.come(0);
        // Of all those secrets it is the last package's that opens this epoch.
        x.remove(1, 0);
        x.add(1, 59);
        x.commit(1, false);
        CHECK.epoch(x, 3, 1, 1, 0b10, 0b1, 0, 0b1, 2);
        CHECK.known(x, 1, 2, 3);
        CHECK.openJust(x, 3, 1 | 1 << 1);
    }

    private static void compromiseAgainAndAgain() {
        CHECK.sentence("A member is COMPROMISED: how many different secrets it holds.");
        RatchetGroup x = Groups.of(2);
        for (int i = 0; i < 20; i++) {
            x.update(1);
        }
        for (int i = 0; i < 300; i++) {
            CHECK.same("compromise(1)", x.compromise(1), 23);
        }
        CHECK.known(x, 1);
        x.commit(0, false);
        CHECK.known(x, 1, 2);
        CHECK.openJust(x, 2, 1 << 2 | 1 << 1);
    }

    private static void memberInNone() {
        CHECK.sentence("its epoch (what = 0), its leaf (1); NONE if it is in none");
        RatchetGroup x = new RatchetGroup();
        x.offer(15);
        CHECK.member(x, 15, -1, -1, 2, 0);
        x.add(0, 0);
        x.commit(0, true);
        CHECK.member(x, 15, -1, -1, 2, 0);
        x.come(15);
        CHECK.member(x, 15, 1, 1, 3, 0);
        x.remove(15, 1);
        x.commit(0, true);
        CHECK.member(x, 15, -1, -1, 0, 0);
    }

    private static void memberOfAnotherWhatOrMember() {
        CHECK.sentence("NONE for another what, or member.");
        RatchetGroup x = Groups.of(16);
        for (int wrong : Groups.NOT_TO_15) {
            for (int what = -1; what <= 4; what++) {
                CHECK.same("member(" + wrong + ", " + what + ")", x.member(wrong, what), -1);
            }
        }
        for (int m = 0; m < 16; m++) {
            for (int wrong : new int[] {Integer.MIN_VALUE, -4, -3, -2, -1, 4, 5, 7, Integer.MAX_VALUE}) {
                CHECK.same("member(" + m + ", " + wrong + ")", x.member(m, wrong), -1);
            }
        }
        CHECK.member(x, 15, 1, 15, 3, 0);
        CHECK.member(x, 0, 1, 0, 6, 0);
    }

    private static void holdsOfWhoIsInNoEpoch() {
        CHECK.sentence("Whether a member that is in an epoch holds the key that a node has in its tree.");
        RatchetGroup x = new RatchetGroup();
        x.add(0, x.offer(1));
        x.commit(0, true);
        // Its package's leaf key is that of leaf 1, but it is in no epoch yet.
        CHECK.holdsJust(x, 1, 0);
        x.come(1);
        CHECK.holdsJust(x, 1, 1 << 2 | 1 << 1);
        x.remove(0, 1);
        x.commit(0, true);
        CHECK.holdsJust(x, 1, 0);
        CHECK.holdsJust(x, 15, 0);
        for (int wrong : Groups.NOT_TO_15) {
            CHECK.holdsJust(x, wrong, 0);
        }
    }

    private static void holdsOfNoSuchNode() {
        CHECK.sentence("Whether a member that is in an epoch holds the key that a node has in its tree.");
        RatchetGroup x = Groups.of(16);
        for (int wrong : new int[] {Integer.MIN_VALUE, -31, -1, 31, 32, 62, Integer.MAX_VALUE}) {
            CHECK.no("holds(0, " + wrong + ")", x.holds(0, wrong));
        }
        CHECK.yes("holds(15, 30)", x.holds(15, 30));
        CHECK.yes("holds(0, 0)", x.holds(0, 0));
        // A blank node has no key that could be held.
        CHECK.node(x, 1, 29, 0);
        CHECK.no("holds(15, 29)", x.holds(15, 29));
        // Nodes that were there once are not there when the tree is smaller.
        for (int leaf = 1; leaf < 16; leaf++) {
            x.remove(0, leaf);
        }
        x.commit(0, false);
        CHECK.holdsJust(x, 0, 1);
    }

    private static void holdsInItsOwnTree() {
        CHECK.sentence("Whether a member that is in an epoch holds the key that a node has in its tree.");
        RatchetGroup x = Groups.of(2);
        x.add(0, x.offer(2));
        x.commit(0, true);
        x.commit(0, true);
        CHECK.holdsJust(x, 1, 1 << 2 | 1 << 1);
        x.come(1);
        CHECK.holdsJust(x, 1, 1 << 2 | 1 << 1 | 1 << 3);
        CHECK.no("holds(1, 0)", x.holds(1, 0));
    }

    private static void hasOfWhoIsInNoEpoch() {
        CHECK.sentence("Whether a member that is in an epoch holds its secret.");
        RatchetGroup x = new RatchetGroup();
        x.add(0, x.offer(1));
        x.commit(0, true);
        CHECK.no("has(1) before it has joined", x.has(1));
        x.come(1);
        CHECK.yes("has(1)", x.has(1));
        x.commit(0, true);
        CHECK.yes("has(1) from behind", x.has(1));
        x.come(1);
        CHECK.yes("has(1)", x.has(1));
        x.remove(0, 1);
        x.commit(0, true);
        CHECK.no("has(1) of who was removed", x.has(1));
        for (int wrong : Groups.NOT_TO_15) {
            CHECK.no("has(" + wrong + ")", x.has(wrong));
        }
    }

    private static void nodeOfNoSuchOne() {
        CHECK.sentence("NONE if there is none such, or for another what.");
        int[] sizes = {1, 2, 3, 5, 9};
        for (int depth = 0; depth <= 4; depth++) {
            RatchetGroup x = Groups.of(sizes[depth]);
            int last = (2 << depth) - 2;
            CHECK.epoch(x, 1, depth);
            for (int node = 0; node <= last; node++) {
                CHECK.yes("node(1, " + node + ", 0) is there", x.node(1, node, 0) >= 0);
                CHECK.same("node(1, " + node + ", -1)", x.node(1, node, -1), -1);
                CHECK.same("node(1, " + node + ", 4)", x.node(1, node, 4), -1);
                CHECK.same("node(2, " + node + ", 0)", x.node(2, node, 0), -1);
            }
            for (int wrong : new int[] {Integer.MIN_VALUE, -2, -1, last + 1, last + 2, 31, 32, Integer.MAX_VALUE}) {
                CHECK.node(x, 1, wrong, -1, -1, -1, -1, -1);
            }
            for (int wrong : FAR) {
                CHECK.node(x, wrong, 0, -1, -1, -1, -1, -1);
                CHECK.same("node(1, 0, " + wrong + ")", x.node(1, 0, wrong), -1);
            }
            CHECK.node(x, 0, 1, -1, -1, -1, -1);
            CHECK.node(x, 0, 0, 1, 0, 0, 1);
        }
    }

    private static void nodeThatIsBlank() {
        CHECK.sentence("the epoch in which it got that key (2; NONE if it is blank)");
        RatchetGroup x = Groups.of(3);
        CHECK.node(x, 1, 6, 0, 0, -1, 0);
        CHECK.node(x, 1, 5, 0, 0, -1, 1);
        CHECK.node(x, 1, 4, 1, 0, 1, 1);
        x.commit(2, true);
        CHECK.node(x, 2, 0, 1, 0, 1, 1);
        CHECK.node(x, 2, 4, 1, 0, 2, 1);
        x.remove(2, 0);
        x.commit(2, true);
        CHECK.node(x, 3, 0, 0, 0, -1, 0);
        CHECK.node(x, 3, 1, 0, 0, -1, 1);
        CHECK.node(x, 3, 3, 1, 0, 3, 1);
        // Older epochs' trees stay as they were.
        CHECK.node(x, 2, 0, 1, 0, 1, 1);
        CHECK.node(x, 1, 3, 1, 0, 1, 1);
        CHECK.node(x, 0, 0, 1, 0, 0, 1);
    }

    private static void epochZero() {
        CHECK.sentence("the committer's leaf (1; NONE of epoch 0)");
        RatchetGroup x = Groups.of(2);
        CHECK.epoch(x, 0, 0, -1, 0, 0, 0, 0, 0);
        CHECK.epoch(x, 1, 1, 0, 1 << 1, 0, 0, 1 << 1, 2);
        CHECK.sentence("nodes that count, as bits (2; 0 without a path)");
        x.add(1, x.offer(2));
        x.commit(1, false);
        CHECK.epoch(x, 2, 2, 1, 0, 0, 0, 1 << 2, 1);
    }

    private static void epochOfNoSuchOne() {
        CHECK.sentence("how much was ENCRYPTED with it (6). NONE if there is none such, or for another what.");
        RatchetGroup x = Groups.of(2);
        for (int wrong : FAR) {
            CHECK.epoch(x, wrong, -1, -1, -1, -1, -1, -1, -1);
            CHECK.same("epoch(1, " + wrong + ")", x.epoch(1, wrong), -1);
        }
        for (int what = -1; what <= 7; what++) {
            CHECK.same("epoch(2, " + what + ")", x.epoch(2, what), -1);
        }
        for (int wrong : new int[] {-7, -6, -5, -4, -3, 7, 8, 32, 33}) {
            CHECK.same("epoch(1, " + wrong + ")", x.epoch(1, wrong), -1);
        }
    }

    private static void epochsAndWaiting() {
        CHECK.sentence("How many epochs there are.");
        RatchetGroup x = new RatchetGroup();
        for (int e = 1; e < 60; e++) {
            CHECK.same("epochs()", x.epochs(), e);
            CHECK.same("commit(0, false)", x.commit(0, false), e);
        }
        CHECK.same("epochs()", x.epochs(), 60);
        CHECK.sentence("How many proposals wait.");
        for (int i = 0; i < 20; i++) {
            CHECK.same("waiting()", x.waiting(), i);
            x.update(0);
        }
        CHECK.same("waiting()", x.waiting(), 20);
    }

    private static void isKnownOfNoSuchEpoch() {
        CHECK.sentence("Whether the intruder knows the secret of an epoch.");
        RatchetGroup x = new RatchetGroup();
        CHECK.no("isKnown(0)", x.isKnown(0));
        x.compromise(0);
        CHECK.yes("isKnown(0)", x.isKnown(0));
        CHECK.no("isKnown(1)", x.isKnown(1));
        for (int wrong : FAR) {
            CHECK.no("isKnown(" + wrong + ")", x.isKnown(wrong));
        }
    }

    private static void isOpenOfNoSuchNode() {
        CHECK.sentence("Whether the intruder knows the key that a node of an epoch's tree has.");
        RatchetGroup x = Groups.of(3);
        for (int m = 0; m < 3; m++) {
            x.compromise(m);
        }
        // Nodes 5 and 6 are blank, and a blank node has no key that could be known.
        CHECK.openJust(x, 1, 1 | 1 << 2 | 1 << 4 | 1 << 1 | 1 << 3);
        CHECK.openJust(x, 0, 0);
        CHECK.openJust(x, 2, 0);
        for (int wrong : FAR) {
            CHECK.openJust(x, wrong, 0);
            CHECK.no("isOpen(1, " + wrong + ")", x.isOpen(1, wrong));
        }
    }

    private static void knownFromNoneToAll() {
        CHECK.sentence("How many secrets of epochs the intruder knows.");
        RatchetGroup x = new RatchetGroup();
        CHECK.same("known()", x.known(), 0);
        for (int e = 1; e <= 60; e++) {
            x.compromise(0);
            CHECK.same("known()", x.known(), e);
            if (e < 60) {
                x.commit(0, true);
                CHECK.same("known()", x.known(), e);
            }
        }
        CHECK.yes("isKnown(59)", x.isKnown(59));
    }

    private static void questionsChangeNothing() {
        RatchetGroup x = Groups.of(5);
        x.update(3);
        x.offer(9);
        x.compromise(2);
        String before = Groups.picture(x);
        for (int a : FAR) {
            x.member(a, 2);
            x.has(a);
            x.isKnown(a);
            for (int b : FAR) {
                x.holds(a, b);
                x.node(a, b, 0);
                x.epoch(a, b);
                x.isOpen(a, b);
            }
        }
        CHECK.yes("questions change nothing", Groups.picture(x).equals(before));
    }
}
