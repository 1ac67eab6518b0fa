/** Groups that many tests begin with, and how one looks from outside. */
final class Groups {
    /** Numbers that name no member, and no leaf. */
    static final int[] NOT_TO_15 = {-1, 16, 17, 31, 32, -16, Integer.MAX_VALUE, Integer.MIN_VALUE};

    private Groups() {
    }

    /** Members 0 .. count - 1 at the leaves of their numbers, all in epoch 1, which had a path. */
    static RatchetGroup of(int count) {
        RatchetGroup x = new RatchetGroup();
        for (int m = 1; m < count; m++) {
            x.add(0, x.offer(m));
        }
        x.commit(0, true);
        for (int m = 1; m < count; m++) {
            x.come(m);
        }
        return x;
    }

    static void allCome(RatchetGroup x, int... members) {
        for (int m : members) {
            x.come(m);
        }
    }

    /** Every answer that can be had without a change. */
    static String picture(RatchetGroup x) {
        StringBuilder all = new StringBuilder();
        all.append(x.epochs()).append(' ').append(x.waiting()).append(' ').append(x.known());
        for (int m = 0; m < 16; m++) {
            all.append("\nmember ").append(m).append(x.has(m));
            for (int what = 0; what < 4; what++) {
                all.append(' ').append(x.member(m, what));
            }
            for (int node = 0; node < 31; node++) {
                all.append(x.holds(m, node) ? '+' : '-');
            }
        }
        for (int e = 0; e < x.epochs(); e++) {
            all.append("\nepoch ").append(e).append(x.isKnown(e));
            for (int what = 0; what < 7; what++) {
                all.append(' ').append(x.epoch(e, what));
            }
            for (int node = 0; node < 31; node++) {
                all.append(x.isOpen(e, node) ? '+' : '-');
                for (int what = 0; what < 4; what++) {
                    all.append(' ').append(x.node(e, node, what));
                }
            }
        }
        return all.toString();
    }
}
