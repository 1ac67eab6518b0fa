import java.util.function.IntSupplier;

/** Counts the answers that are not as due, and ends a test with exit code 1 if there was one. */
final class Check {
    private int asked;
    private int wrong;
    private String sentence = "";

    /** Names the document's words that the checks from here on are about. */
    void sentence(String words) {
        sentence = "";
        yes("DOC.md has the words '" + words + "'", Document.has(words));
        sentence = "'" + words + "': ";
    }

    void same(String call, long got, long due) {
        asked++;
        if (got != due) {
            wrong++;
            if (wrong <= 30) {
                System.out.println(sentence + call + " answered " + got + ", due is " + due);
            }
        }
    }

    void yes(String call, boolean got) {
        same(call, got ? 1 : 0, 1);
    }

    void no(String call, boolean got) {
        same(call, got ? 1 : 0, 0);
    }

    void throwsIndex(String call, IntSupplier made) {
        same(call + " (an exception)", outcome(made), Model.INDEX);
    }

    void throwsState(String call, IntSupplier made) {
        same(call + " (an exception)", outcome(made), Model.STATE);
    }

    /** That a call throws IndexOutOfBoundsException, and that no answer is another one after it. */
    void refusedIndex(RatchetGroup x, String call, IntSupplier made) {
        refused(x, call, made, Model.INDEX);
    }

    /** That a call throws IllegalStateException, and that no answer is another one after it. */
    void refusedState(RatchetGroup x, String call, IntSupplier made) {
        refused(x, call, made, Model.STATE);
    }

    private void refused(RatchetGroup x, String call, IntSupplier made, int due) {
        String before = Groups.picture(x);
        same(call + " (an exception)", outcome(made), due);
        yes(call + " changes nothing", Groups.picture(x).equals(before));
    }

    /** epoch(number, 0), epoch(number, 1) and so on. */
    void epoch(RatchetGroup x, int number, int... due) {
        for (int what = 0; what < due.length; what++) {
            same("epoch(" + number + ", " + what + ")", x.epoch(number, what), due[what]);
        }
    }

    /** node(epoch, node, 0), node(epoch, node, 1) and so on. */
    void node(RatchetGroup x, int epoch, int node, int... due) {
        for (int what = 0; what < due.length; what++) {
            same("node(" + epoch + ", " + node + ", " + what + ")", x.node(epoch, node, what), due[what]);
        }
    }

    /** member(m, 0), member(m, 1) and so on. */
    void member(RatchetGroup x, int m, int... due) {
        for (int what = 0; what < due.length; what++) {
            same("member(" + m + ", " + what + ")", x.member(m, what), due[what]);
        }
    }

    /** That a member holds the keys of these nodes, as bits, and of no others. */
    void holdsJust(RatchetGroup x, int m, int nodes) {
        for (int node = -1; node <= 31; node++) {
            same("holds(" + m + ", " + node + ")", x.holds(m, node) ? 1 : 0, node < 0 ? 0 : nodes >>> node & 1);
        }
    }

    /** That the intruder knows the secrets of these epochs and of no others. */
    void known(RatchetGroup x, int... epochs) {
        long bits = 0;
        for (int e : epochs) {
            bits |= 1L << e;
        }
        for (int e = 0; e < x.epochs(); e++) {
            same("isKnown(" + e + ")", x.isKnown(e) ? 1 : 0, bits >>> e & 1);
        }
        same("known()", x.known(), epochs.length);
    }

    /** That the intruder knows the keys of these nodes of an epoch, as bits, and of no others. */
    void openJust(RatchetGroup x, int epoch, int nodes) {
        for (int node = -1; node <= 31; node++) {
            int due = node < 0 ? 0 : nodes >>> node & 1;
            same("isOpen(" + epoch + ", " + node + ")", x.isOpen(epoch, node) ? 1 : 0, due);
        }
    }

    /** The answer of a call, or which exception of the document it threw; others end the test. */
    static int outcome(IntSupplier call) {
        try {
            return call.getAsInt();
        } catch (IndexOutOfBoundsException e) {
            return isThrownByTheClass(e, IndexOutOfBoundsException.class) ? Model.INDEX : Integer.MIN_VALUE;
        } catch (IllegalStateException e) {
            return isThrownByTheClass(e, IllegalStateException.class) ? Model.STATE : Integer.MIN_VALUE;
        }
    }

    /** Not by the machine, nor by a list of the library, which throw the same kind. */
    private static boolean isThrownByTheClass(RuntimeException e, Class<?> kind) {
        StackTraceElement[] trace = e.getStackTrace();
        // The machine may leave the trace out where it throws the same thing often.
        return e.getClass() == kind && trace.length > 0 && trace[0].getClassName().startsWith("RatchetGroup");
    }

    boolean isClean() {
        return wrong == 0;
    }

    void finish() {
        System.out.println(wrong == 0 ? asked + " answers as due" : wrong + " of " + asked + " answers not as due");
        if (wrong != 0) {
            System.exit(1);
        }
    }
}
