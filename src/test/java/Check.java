import java.util.function.IntSupplier;

/** Counts the answers that are not as due, and ends a test with exit code 1 if there was one. */
final class Check {
    private int asked;
    private int wrong;

    void same(String call, long got, long due) {
        asked++;
        if (got != due) {
            wrong++;
            if (wrong <= 30) {
                System.out.println(call + " answered " + got + ", due is " + due);
            }
        }
    }

    void yes(String call, boolean got) {
        same(call, got ? 1 : 0, 1);
    }

    void no(String call, boolean got) {
        same(call, got ? 1 : 0, 0);
    }

    void throwsIndex(String call, IntSupplier made) {
        same(call + " (an exception)", outcome(made), Model.INDEX);
    }

    void throwsState(String call, IntSupplier made) {
        same(call + " (an exception)", outcome(made), Model.STATE);
    }

    /** The answer of a call, or which exception of the document it threw; others end the test. */
    static int outcome(IntSupplier call) {
        try {
            return call.getAsInt();
        } catch (IndexOutOfBoundsException e) {
            return e.getClass() == IndexOutOfBoundsException.class ? Model.INDEX : Integer.MIN_VALUE;
        } catch (IllegalStateException e) {
            return Model.STATE;
        }
    }

    boolean isClean() {
        return wrong == 0;
    }

    void finish() {
        System.out.println(wrong == 0 ? asked + " answers as due" : wrong + " of " + asked + " answers not as due");
        if (wrong != 0) {
            System.exit(1);
        }
    }
}
