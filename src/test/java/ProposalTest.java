/** Promises 1 to 5, 14 and 15: a new object, packages, and proposals that wait. */
public final class ProposalTest {
    private static final Check CHECK = new Check();

    public static void main(String[] args) {
        newObject();
        offer();
        wrongArguments();
        notInTheLatestEpoch();
        proposalsWait();
        CHECK.finish();
    }

    private static void newObject() {
        RatchetGroup x = new RatchetGroup();
        CHECK.same("NONE", RatchetGroup.NONE, -1);
        CHECK.same("epochs()", x.epochs(), 1);
        CHECK.same("waiting()", x.waiting(), 0);
        CHECK.same("known()", x.known(), 0);
        CHECK.same("member(0, 0)", x.member(0, 0), 0);
        CHECK.same("member(0, 1)", x.member(0, 1), 0);
        CHECK.same("member(0, 2)", x.member(0, 2), 2);
        CHECK.same("member(0, 3)", x.member(0, 3), 0);
        CHECK.yes("has(0)", x.has(0));
        CHECK.yes("holds(0, 0)", x.holds(0, 0));
        CHECK.same("node(0, 0, 0)", x.node(0, 0, 0), 1);
        CHECK.same("node(0, 0, 1)", x.node(0, 0, 1), 0);
        CHECK.same("node(0, 0, 2)", x.node(0, 0, 2), 0);
        CHECK.same("node(0, 0, 3)", x.node(0, 0, 3), 1);
        CHECK.same("node(0, 1, 0)", x.node(0, 1, 0), -1);
        int[] due = {0, -1, 0, 0, 0, 0, 0};
        for (int what = 0; what < due.length; what++) {
            CHECK.same("epoch(0, " + what + ")", x.epoch(0, what), due[what]);
        }
        for (int m = 1; m < 16; m++) {
            CHECK.same("member(m, 0)", x.member(m, 0), -1);
            CHECK.same("member(m, 1)", x.member(m, 1), -1);
            CHECK.same("member(m, 2)", x.member(m, 2), 0);
            CHECK.same("member(m, 3)", x.member(m, 3), 0);
            CHECK.no("has(m)", x.has(m));
            CHECK.no("holds(m, 0)", x.holds(m, 0));
        }
    }

    private static void offer() {
        RatchetGroup x = new RatchetGroup();
        CHECK.same("offer(15)", x.offer(15), 0);
        CHECK.same("offer(0)", x.offer(0), 1);
        CHECK.same("offer(15)", x.offer(15), 2);
        CHECK.same("member(15, 2)", x.member(15, 2), 4);
        CHECK.same("member(0, 2)", x.member(0, 2), 4);
        CHECK.throwsIndex("offer(-1)", () -> x.offer(-1));
        CHECK.throwsIndex("offer(16)", () -> x.offer(16));
        CHECK.same("offer(1)", x.offer(1), 3);
    }

    private static void wrongArguments() {
        RatchetGroup x = new RatchetGroup();
        int[] notMembers = {-1, 16, Integer.MAX_VALUE, Integer.MIN_VALUE};
        x.offer(3);
        for (int m : notMembers) {
            CHECK.throwsIndex("offer", () -> x.offer(m));
            CHECK.throwsIndex("add", () -> x.add(m, 0));
            CHECK.throwsIndex("remove", () -> x.remove(m, 0));
            CHECK.throwsIndex("update", () -> x.update(m));
        }
        for (int offered : new int[] {-1, 1, 59, 60, Integer.MAX_VALUE, Integer.MIN_VALUE}) {
            CHECK.throwsIndex("add(0, " + offered + ")", () -> x.add(0, offered));
            CHECK.throwsIndex("add(5, " + offered + ")", () -> x.add(5, offered));
        }
        for (int leaf : notMembers) {
            CHECK.throwsIndex("remove(0, " + leaf + ")", () -> x.remove(0, leaf));
            CHECK.throwsIndex("remove(5, " + leaf + ")", () -> x.remove(5, leaf));
        }
        CHECK.same("waiting()", x.waiting(), 0);
        CHECK.same("member(0, 2)", x.member(0, 2), 2);
    }

    private static void notInTheLatestEpoch() {
        RatchetGroup x = Groups.of(3);
        x.commit(1, true);
        for (int m : new int[] {0, 2, 3}) {
            CHECK.throwsState("add", () -> x.add(m, 0));
            CHECK.throwsState("remove", () -> x.remove(m, 15));
            CHECK.throwsState("update", () -> x.update(m));
        }
        CHECK.same("waiting()", x.waiting(), 0);
        CHECK.same("member(2, 2) after updates that were refused", x.member(2, 2), 3);
        x.come(0);
        CHECK.same("add(0, 0)", x.add(0, 0), 1);
    }

    private static void proposalsWait() {
        RatchetGroup x = new RatchetGroup();
        x.offer(1);
        for (int i = 1; i <= 18; i += 3) {
            CHECK.same("add", x.add(0, 0), i);
            CHECK.same("remove", x.remove(0, 15), i + 1);
            CHECK.same("update", x.update(0), i + 2);
        }
        CHECK.same("update", x.update(0), 19);
        CHECK.same("remove", x.remove(0, 0), 20);
        CHECK.same("member(0, 2) with seven updates", x.member(0, 2), 9);
        CHECK.throwsState("add", () -> x.add(0, 0));
        CHECK.throwsState("remove", () -> x.remove(0, 0));
        CHECK.throwsState("update", () -> x.update(0));
        CHECK.throwsIndex("add of no package", () -> x.add(0, 1));
        CHECK.throwsIndex("remove of no leaf", () -> x.remove(0, 16));
        CHECK.same("waiting()", x.waiting(), 20);
        CHECK.same("member(0, 2) after an update that was refused", x.member(0, 2), 9);
        CHECK.same("commit(0, false)", x.commit(0, false), 1);
        CHECK.same("waiting()", x.waiting(), 0);
        CHECK.same("update", x.update(0), 1);
    }
}
