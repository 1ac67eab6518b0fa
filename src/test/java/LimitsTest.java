/** The limits of the document, and that nothing else is ever thrown, long after them too. */
public final class LimitsTest {
    private static final Check CHECK = new Check();

    public static void main(String[] args) {
        sixtyPackages();
        sixtyEpochs();
        busiestRun();
        CHECK.finish();
    }

    private static void sixtyPackages() {
        RatchetGroup x = new RatchetGroup();
        for (int i = 0; i < 60; i++) {
            CHECK.same("offer", x.offer(i % 16), i);
        }
        CHECK.throwsState("offer(0)", () -> x.offer(0));
        CHECK.throwsIndex("offer(16)", () -> x.offer(16));
        CHECK.same("member(0, 2)", x.member(0, 2), 10);
        CHECK.same("add(0, 59)", x.add(0, 59), 1);
        CHECK.throwsIndex("add(0, 60)", () -> x.add(0, 60));
    }

    private static void sixtyEpochs() {
        RatchetGroup x = Groups.of(2);
        for (int e = 2; e < 60; e++) {
            CHECK.same("commit", x.commit(0, false), e);
        }
        CHECK.same("epochs()", x.epochs(), 60);
        CHECK.same("update(0)", x.update(0), 1);
        CHECK.throwsState("commit(0, true)", () -> x.commit(0, true));
        CHECK.throwsIndex("commit(16, true)", () -> x.commit(16, true));
        CHECK.same("epochs()", x.epochs(), 60);
        CHECK.same("waiting()", x.waiting(), 1);
        x.compromise(1);
        CHECK.same("known()", x.known(), 59);
        CHECK.yes("isKnown(59)", x.isKnown(59));
        CHECK.no("isKnown(60)", x.isKnown(60));
        for (int e = 2; e < 60; e++) {
            CHECK.same("come(1)", x.come(1), e);
        }
        CHECK.throwsState("come(1)", () -> x.come(1));
    }

    /** As many secrets as there can be: 60 epochs, each with 20 updates, in the widest tree. */
    private static void busiestRun() {
        RatchetGroup x = Groups.of(16);
        for (int i = 15; i < 60; i++) {
            x.offer(i % 16);
        }
        for (int e = 1; e < 60; e++) {
            for (int i = 0; i < 20; i++) {
                x.update(i * e % 16);
            }
            if (e == 59) {
                break;
            }
            x.commit(e % 16, true);
            for (int m = 0; m < 16; m++) {
                if (m != e % 16) {
                    CHECK.same("come", x.come(m), e + 1);
                }
            }
        }
        for (int m = 0; m < 16; m++) {
            CHECK.yes("has", x.has(m));
            CHECK.same("member(m, 3)", x.member(m, 3), 0);
        }
        CHECK.same("known()", x.known(), 0);
        CHECK.same("waiting()", x.waiting(), 20);
        x.compromise(7);
        CHECK.yes("isKnown(59)", x.isKnown(59));
        CHECK.no("isKnown(58)", x.isKnown(58));
    }
}
