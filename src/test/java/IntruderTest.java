/** Promises 8, 16, 17 and 18: what the intruder is told, and what it can have from that. */
public final class IntruderTest {
    private static final Check CHECK = new Check();

    public static void main(String[] args) {
        wrongQuestions();
        pastStaysClosed();
        zeroHidesNothing();
        healing();
        removedMembersAreOut();
        packagesTell();
        updatesHeal();
        forgottenUpdates();
        keyWithoutTheSecretBefore();
        oldMessagesOpen();
        CHECK.finish();
    }

    private static void wrongQuestions() {
        RatchetGroup x = new RatchetGroup();
        CHECK.same("compromise(0)", x.compromise(0), 2);
        CHECK.same("compromise(1)", x.compromise(1), 0);
        for (int wrong : new int[] {-1, 16, Integer.MAX_VALUE, Integer.MIN_VALUE}) {
            CHECK.throwsIndex("compromise(" + wrong + ")", () -> x.compromise(wrong));
            CHECK.no("isKnown(" + wrong + ")", x.isKnown(wrong));
            CHECK.no("isOpen(" + wrong + ", 0)", x.isOpen(wrong, 0));
            CHECK.no("isOpen(0, " + wrong + ")", x.isOpen(0, wrong));
        }
        CHECK.no("isKnown(1)", x.isKnown(1));
        CHECK.no("isOpen(0, 1)", x.isOpen(0, 1));
        CHECK.known(x, 0);
        CHECK.openJust(x, 0, 1);
    }

    private static void pastStaysClosed() {
        RatchetGroup x = Groups.of(4);
        x.commit(2, true);
        Groups.allCome(x, 0, 1, 3);
        CHECK.known(x);
        CHECK.same("compromise(3)", x.compromise(3), 4);
        CHECK.known(x, 2);
        CHECK.openJust(x, 2, 1 << 6 | 1 << 5 | 1 << 3);
        // Its leaf key is that of epoch 1, but the path secrets of epoch 1 were not sent to it.
        CHECK.openJust(x, 1, 1 << 6);
        CHECK.same("compromise(3) again", x.compromise(3), 4);
        CHECK.known(x, 2);
    }

    private static void zeroHidesNothing() {
        RatchetGroup x = Groups.of(2);
        x.compromise(1);
        x.add(0, x.offer(2));
        x.commit(0, false);
        x.add(0, x.offer(3));
        x.commit(0, false);
        CHECK.known(x, 1, 2, 3);
        CHECK.openJust(x, 3, 1 << 2 | 1 << 1);
        RatchetGroup y = new RatchetGroup();
        y.add(0, y.offer(1));
        y.commit(0, false);
        y.add(0, y.offer(2));
        y.commit(0, true);
        CHECK.known(y);
        y.come(1);
        y.compromise(1);
        CHECK.known(y, 1, 2);
    }

    private static void healing() {
        RatchetGroup x = Groups.of(3);
        x.compromise(1);
        CHECK.known(x, 1);
        x.commit(0, true);
        CHECK.known(x, 1, 2);
        CHECK.openJust(x, 2, 1 << 2 | 1 << 1 | 1 << 3);
        Groups.allCome(x, 1, 2);
        x.commit(1, true);
        CHECK.known(x, 1, 2);
        CHECK.openJust(x, 3, 0);
        Groups.allCome(x, 0, 2);
        x.commit(2, true);
        CHECK.known(x, 1, 2);
        CHECK.openJust(x, 4, 0);
    }

    private static void removedMembersAreOut() {
        RatchetGroup x = Groups.of(3);
        x.compromise(2);
        x.remove(0, 2);
        x.commit(0, false);
        CHECK.known(x, 1);
        CHECK.openJust(x, 2, 0);
        CHECK.same("compromise(2)", x.compromise(2), 0);
        RatchetGroup alone = Groups.of(2);
        alone.compromise(0);
        alone.remove(0, 1);
        alone.commit(0, false);
        CHECK.known(alone, 1);
        CHECK.openJust(alone, 2, 0);
    }

    private static void packagesTell() {
        RatchetGroup x = Groups.of(2);
        x.offer(2);
        CHECK.same("compromise(2)", x.compromise(2), 2);
        CHECK.known(x);
        x.add(0, 1);
        x.commit(0, true);
        CHECK.known(x, 2);
        CHECK.openJust(x, 2, 1 << 4 | 1 << 3);
        RatchetGroup y = Groups.of(2);
        y.offer(2);
        y.add(0, 1);
        y.commit(1, false);
        y.come(2);
        CHECK.same("compromise(2)", y.compromise(2), 2);
        CHECK.known(y, 2);
        CHECK.openJust(y, 2, 1 << 4);
        CHECK.openJust(y, 1, 0);
    }

    private static void updatesHeal() {
        RatchetGroup x = Groups.of(2);
        x.compromise(1);
        x.update(1);
        x.commit(0, false);
        CHECK.known(x, 1);
        CHECK.openJust(x, 2, 0);
        RatchetGroup y = Groups.of(2);
        y.update(1);
        CHECK.same("compromise(1)", y.compromise(1), 4);
        y.commit(0, false);
        CHECK.known(y, 1, 2);
        CHECK.openJust(y, 2, 1 << 2 | 1 << 1);
        RatchetGroup z = Groups.of(2);
        z.update(1);
        z.compromise(1);
        z.update(1);
        z.commit(0, false);
        CHECK.known(z, 1);
        CHECK.openJust(z, 2, 0);
    }

    private static void forgottenUpdates() {
        RatchetGroup x = Groups.of(2);
        x.update(1);
        x.commit(0, false);
        x.update(0);
        CHECK.same("compromise(1) before it comes", x.compromise(1), 4);
        CHECK.known(x, 1, 2);
        x.come(1);
        CHECK.same("compromise(1)", x.compromise(1), 3);
        CHECK.same("compromise(0)", x.compromise(0), 4);
        x.commit(0, false);
        CHECK.same("compromise(0)", x.compromise(0), 3);
    }

    private static void keyWithoutTheSecretBefore() {
        RatchetGroup x = Groups.of(2);
        x.offer(2);
        x.compromise(2);
        x.add(0, 1);
        x.commit(0, false);
        x.come(1);
        CHECK.known(x, 2);
        // Member 0's path heals nothing, since the leaf of member 2 is open.
        x.commit(0, true);
        CHECK.known(x, 2, 3);
        CHECK.openJust(x, 3, 1 << 4 | 1 << 3);
        RatchetGroup y = new RatchetGroup();
        y.add(0, y.offer(1));
        y.commit(0, false);
        y.commit(0, true);
        y.commit(0, true);
        // Told of a later epoch, it opens that one's keys and none of the epochs before.
        Groups.allCome(y, 1, 1, 1);
        y.update(1);
        y.commit(0, true);
        y.come(1);
        y.compromise(1);
        CHECK.known(y, 4);
        CHECK.openJust(y, 4, 1 << 2 | 1 << 1);
    }

    private static void oldMessagesOpen() {
        RatchetGroup x = new RatchetGroup();
        x.add(0, x.offer(1));
        x.commit(0, false);
        x.commit(0, true);
        x.commit(0, true);
        x.come(1);
        CHECK.known(x);
        // Who is behind still holds what opens all that was sent since.
        CHECK.same("compromise(1)", x.compromise(1), 2);
        CHECK.known(x, 1, 2, 3);
        CHECK.openJust(x, 3, 1 << 2 | 1 << 1);
        RatchetGroup y = new RatchetGroup();
        y.add(0, y.offer(1));
        y.commit(0, false);
        y.commit(0, true);
        y.commit(0, true);
        Groups.allCome(y, 1, 1, 1);
        // The leaf key opens the old paths, but the secret before epoch 2 stays hidden.
        y.compromise(1);
        CHECK.known(y, 3);
        CHECK.openJust(y, 2, 1 << 2 | 1 << 1);
    }
}
