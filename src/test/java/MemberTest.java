/** Promises 7, 9, 10 and 11: coming, joining, and what a member then holds. */
public final class MemberTest {
    private static final Check CHECK = new Check();

    public static void main(String[] args) {
        wrongComing();
        joinWithPath();
        joinWithoutPath();
        updateOnTheWay();
        stepByStep();
        removedOnTheWay();
        joinTheEarliest();
        removedAndAddedBeforeItCame();
        keysThatStay();
        keysOfOthers();
        wrongQuestions();
        CHECK.finish();
    }

    private static void wrongComing() {
        RatchetGroup x = new RatchetGroup();
        for (int m : new int[] {-1, 16, Integer.MAX_VALUE, Integer.MIN_VALUE}) {
            CHECK.throwsIndex("come(" + m + ")", () -> x.come(m));
        }
        CHECK.throwsState("come(0)", () -> x.come(0));
        CHECK.throwsState("come(1)", () -> x.come(1));
        x.offer(1);
        CHECK.throwsState("come(1) with a package", () -> x.come(1));
        x.add(0, 0);
        CHECK.throwsState("come(1) with an ADD that waits", () -> x.come(1));
        x.commit(0, true);
        CHECK.same("come(1)", x.come(1), 1);
        CHECK.throwsState("come(1) again", () -> x.come(1));
    }

    private static void joinWithPath() {
        RatchetGroup x = new RatchetGroup();
        for (int m = 1; m < 4; m++) {
            x.add(0, x.offer(m));
        }
        x.offer(3);
        x.commit(0, true);
        CHECK.member(x, 0, 1, 0, 4, 0);
        CHECK.member(x, 3, -1, -1, 4, 0);
        CHECK.holdsJust(x, 3, 0);
        CHECK.no("has(3)", x.has(3));
        x.come(3);
        CHECK.member(x, 3, 1, 3, 5, 0);
        CHECK.holdsJust(x, 3, 1 << 6 | 1 << 3);
        CHECK.yes("has(3)", x.has(3));
        x.come(1);
        CHECK.member(x, 1, 1, 1, 4, 0);
        CHECK.holdsJust(x, 1, 1 << 2 | 1 << 1 | 1 << 3);
    }

    private static void joinWithoutPath() {
        RatchetGroup x = Groups.of(2);
        x.add(0, x.offer(2));
        x.commit(0, false);
        x.come(2);
        CHECK.member(x, 2, 2, 2, 2, 0);
        CHECK.holdsJust(x, 2, 1 << 4);
        CHECK.yes("has(2)", x.has(2));
        // An unmerged leaf does not hold the key of the node that has it so.
        RatchetGroup y = Groups.of(3);
        y.add(1, y.offer(3));
        y.commit(1, false);
        y.come(3);
        CHECK.holdsJust(y, 3, 1 << 6);
        y.commit(1, true);
        CHECK.same("come(3)", y.come(3), 3);
        CHECK.holdsJust(y, 3, 1 << 6 | 1 << 3);
        CHECK.member(y, 3, 3, 3, 3, 0);
    }

    private static void updateOnTheWay() {
        RatchetGroup x = Groups.of(3);
        x.update(1);
        x.update(1);
        CHECK.member(x, 1, 1, 1, 6, 0);
        x.commit(0, false);
        CHECK.member(x, 1, 1, 1, 6, 0);
        CHECK.holdsJust(x, 1, 1 << 2 | 1 << 1 | 1 << 3);
        x.come(1);
        CHECK.member(x, 1, 2, 1, 4, 0);
        CHECK.holdsJust(x, 1, 1 << 2 | 1 << 1 | 1 << 3);
        CHECK.yes("has(1)", x.has(1));
        // An UPDATE that waits when its member's leaf is removed is forgotten with the rest.
        x.come(2);
        x.update(2);
        x.offer(2);
        x.remove(1, 2);
        x.commit(1, false);
        CHECK.member(x, 2, -1, -1, 2, 0);
        CHECK.no("has(2)", x.has(2));
        CHECK.holdsJust(x, 2, 0);
    }

    private static void stepByStep() {
        RatchetGroup x = Groups.of(4);
        for (int i = 0; i < 5; i++) {
            x.commit(0, true);
        }
        for (int e = 2; e <= 6; e++) {
            CHECK.same("come(3)", x.come(3), e);
            CHECK.member(x, 3, e, 3, 3, 0);
            CHECK.holdsJust(x, 3, 1 << 6 | 1 << 3);
            CHECK.yes("has(3)", x.has(3));
        }
        CHECK.throwsState("come(3)", () -> x.come(3));
    }

    private static void removedOnTheWay() {
        RatchetGroup x = Groups.of(3);
        x.offer(2);
        x.commit(0, true);
        x.remove(0, 2);
        x.commit(0, false);
        CHECK.member(x, 2, 1, 2, 5, 0);
        CHECK.yes("has(2)", x.has(2));
        CHECK.same("come(2)", x.come(2), 2);
        CHECK.same("come(2)", x.come(2), -1);
        CHECK.member(x, 2, -1, -1, 2, 0);
        CHECK.no("has(2)", x.has(2));
        CHECK.throwsState("come(2)", () -> x.come(2));
    }

    private static void joinTheEarliest() {
        RatchetGroup x = new RatchetGroup();
        int later = x.offer(1);
        int sooner = x.offer(1);
        x.add(0, sooner);
        x.commit(0, true);
        x.remove(0, 1);
        x.commit(0, true);
        x.add(0, later);
        x.commit(0, true);
        CHECK.member(x, 1, -1, -1, 4, 0);
        CHECK.same("come(1)", x.come(1), 1);
        CHECK.member(x, 1, 1, 1, 5, 0);
        CHECK.same("come(1)", x.come(1), -1);
        CHECK.member(x, 1, -1, -1, 2, 0);
        CHECK.same("come(1)", x.come(1), 3);
        CHECK.member(x, 1, 3, 1, 3, 0);
        CHECK.throwsState("come(1)", () -> x.come(1));
    }

    private static void removedAndAddedBeforeItCame() {
        RatchetGroup x = new RatchetGroup();
        x.add(0, x.offer(1));
        x.commit(0, true);
        x.remove(0, 1);
        x.add(0, x.offer(1));
        x.commit(0, true);
        CHECK.same("epoch(2, 5)", x.epoch(2, 5), 2);
        CHECK.same("come(1)", x.come(1), 1);
        CHECK.same("come(1) to where it was removed", x.come(1), -1);
        CHECK.same("come(1) to where it was added", x.come(1), 2);
        CHECK.yes("holds(1, 2)", x.holds(1, 2));
        CHECK.yes("holds(1, 1)", x.holds(1, 1));
    }

    private static void keysThatStay() {
        RatchetGroup x = Groups.of(4);
        x.commit(2, true);
        Groups.allCome(x, 0, 1, 3);
        CHECK.holdsJust(x, 3, 1 << 6 | 1 << 5 | 1 << 3);
        CHECK.holdsJust(x, 1, 1 << 2 | 1 << 1 | 1 << 3);
        x.add(1, x.offer(4));
        x.commit(1, false);
        CHECK.holdsJust(x, 1, 1 << 2 | 1 << 1 | 1 << 3);
        x.come(3);
        CHECK.holdsJust(x, 3, 1 << 6 | 1 << 5 | 1 << 3);
        x.commit(1, true);
        x.come(3);
        CHECK.holdsJust(x, 3, 1 << 6 | 1 << 5 | 1 << 3 | 1 << 7);
        x.remove(3, 4);
        x.commit(3, false);
        CHECK.holdsJust(x, 3, 1 << 6 | 1 << 5 | 1 << 3);
        x.come(2);
        x.come(2);
        x.come(2);
        x.update(2);
        x.commit(3, false);
        x.come(1);
        x.come(1);
        CHECK.member(x, 1, 6, 1, 4, 0);
        CHECK.holdsJust(x, 1, 1 << 2 | 1 << 1 | 1 << 3);
    }

    private static void keysOfOthers() {
        RatchetGroup x = Groups.of(4);
        x.commit(3, true);
        // Its tree is that of its own epoch, where node 5 is blank and node 3 has another key.
        CHECK.no("holds(0, 5)", x.holds(0, 5));
        CHECK.yes("holds(0, 3)", x.holds(0, 3));
        x.come(0);
        CHECK.no("holds(0, 5)", x.holds(0, 5));
        CHECK.no("holds(0, 6)", x.holds(0, 6));
        CHECK.no("holds(3, 1)", x.holds(3, 1));
        CHECK.yes("holds(3, 5)", x.holds(3, 5));
    }

    private static void wrongQuestions() {
        RatchetGroup x = Groups.of(2);
        for (int wrong : new int[] {-1, 16, Integer.MAX_VALUE, Integer.MIN_VALUE}) {
            for (int what = 0; what < 4; what++) {
                CHECK.same("member(" + wrong + ", what)", x.member(wrong, what), -1);
            }
            CHECK.same("member(0, " + wrong + ")", x.member(0, wrong), -1);
            CHECK.no("has(" + wrong + ")", x.has(wrong));
            CHECK.no("holds(" + wrong + ", 0)", x.holds(wrong, 0));
            CHECK.no("holds(0, " + wrong + ")", x.holds(0, wrong));
        }
        CHECK.same("member(0, 4)", x.member(0, 4), -1);
    }
}
