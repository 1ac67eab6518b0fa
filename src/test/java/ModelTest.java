import java.util.Random;

/** Long runs of all kinds of calls, with wrong arguments among them, against the slow model. */
public final class ModelTest {
    private static final int CALLS = 512;
    private final Check check;
    private final Random random;
    private final RatchetGroup group = new RatchetGroup();
    private final Model model = new Model();
    private final int eagerness;
    private final int removing;
    private final int betraying;
    private final String run;

    private ModelTest(Check check, int seed) {
        this.check = check;
        random = new Random(seed);
        eagerness = 20 + random.nextInt(60);
        removing = 1 + random.nextInt(10);
        betraying = random.nextInt(4);
        run = "run " + seed + ": ";
    }

    public static void main(String[] args) {
        int runs = args.length > 0 ? Integer.parseInt(args[0]) : 120;
        Check check = new Check();
        for (int seed = 1; seed <= runs && check.isClean(); seed++) {
            new ModelTest(check, seed).go();
        }
        check.finish();
    }

    private void go() {
        for (int i = 0; i < CALLS && check.isClean(); i++) {
            change();
            if (i % 64 == 63 || i < 8) {
                compareAll();
            }
        }
    }

    private int anyMember() {
        return random.nextInt(40) == 0 ? outside() : random.nextInt(16);
    }

    private int outside() {
        int[] far = {Integer.MIN_VALUE, Integer.MAX_VALUE, 31, 32, -16};
        return random.nextBoolean() ? far[random.nextInt(far.length)] : random.nextInt(24) - 4;
    }

    /** Most often one that is in the latest epoch, or little would ever happen. */
    private int proposer() {
        for (int tries = 0; tries < 40; tries++) {
            int m = random.nextInt(16);
            if (group.member(m, 0) == group.epochs() - 1) {
                return m;
            }
        }
        return anyMember();
    }

    private void change() {
        int dice = random.nextInt(100);
        if (dice < eagerness) {
            int m = anyMember();
            same("come(" + m + ")", Check.outcome(() -> group.come(m)), model.come(m));
        } else if (dice < eagerness + betraying) {
            int m = anyMember();
            same("compromise(" + m + ")", Check.outcome(() -> group.compromise(m)), model.compromise(m));
        } else {
            propose();
        }
    }

    private void propose() {
        int m = random.nextInt(20) == 0 ? anyMember() : proposer();
        int dice = random.nextInt(30 + removing);
        if (dice < 7) {
            int owner = anyMember();
            same("offer(" + owner + ")", Check.outcome(() -> group.offer(owner)), model.offer(owner));
        } else if (dice < 17) {
            int offered = random.nextInt(62) * random.nextInt(101) / 100 - 1;
            same("add(" + m + ", " + offered + ")", Check.outcome(() -> group.add(m, offered)), model.add(m, offered));
        } else if (dice < 22) {
            same("update(" + m + ")", Check.outcome(() -> group.update(m)), model.update(m));
        } else if (dice < 30) {
            boolean path = random.nextInt(3) == 0;
            same("commit(" + m + ", " + path + ")", Check.outcome(() -> group.commit(m, path)), model.commit(m, path));
        } else {
            int leaf = random.nextInt(18) - 1;
            same("remove(" + m + ", " + leaf + ")", Check.outcome(() -> group.remove(m, leaf)), model.remove(m, leaf));
        }
    }

    private void same(String call, int got, int due) {
        check.same(run + call, got, due);
    }

    private void compareAll() {
        same("epochs()", group.epochs(), model.epochs());
        same("waiting()", group.waiting(), model.waiting());
        same("known()", group.known(), model.known());
        for (int m = -1; m <= 16; m++) {
            same("has(" + m + ")", group.has(m) ? 1 : 0, model.has(m));
            for (int what = -1; what <= 4; what++) {
                same("member(" + m + ", " + what + ")", group.member(m, what), model.member(m, what));
            }
            for (int node = -1; node <= 31; node++) {
                same("holds(" + m + ", " + node + ")", group.holds(m, node) ? 1 : 0, model.holds(m, node));
            }
        }
        for (int e = -1; e <= model.epochs(); e++) {
            compareEpoch(e);
        }
    }

    private void compareEpoch(int e) {
        same("isKnown(" + e + ")", group.isKnown(e) ? 1 : 0, model.isKnown(e));
        for (int what = -1; what <= 7; what++) {
            same("epoch(" + e + ", " + what + ")", group.epoch(e, what), model.epoch(e, what));
        }
        for (int node = -1; node <= 31; node++) {
            same("isOpen(" + e + ", " + node + ")", group.isOpen(e, node) ? 1 : 0, model.isOpen(e, node));
            for (int what = -1; what <= 4; what++) {
                String call = "node(" + e + ", " + node + ", " + what + ")";
                same(call, group.node(e, node, what), model.node(e, node, what));
            }
        }
    }
}
