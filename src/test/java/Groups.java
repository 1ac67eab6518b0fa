/** Groups that many tests begin with. */
final class Groups {
    private Groups() {
    }

    /** Members 0 .. count - 1 at the leaves of their numbers, all in epoch 1, which had a path. */
    static RatchetGroup of(int count) {
        RatchetGroup x = new RatchetGroup();
        for (int m = 1; m < count; m++) {
            x.add(0, x.offer(m));
        }
        x.commit(0, true);
        for (int m = 1; m < count; m++) {
            x.come(m);
        }
        return x;
    }

    static void allCome(RatchetGroup x, int... members) {
        for (int m : members) {
            x.come(m);
        }
    }
}
