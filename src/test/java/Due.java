import java.util.NoSuchElementException;
import java.util.concurrent.Callable;

/** Counts the answers that are not the ones that are due. */
final class Due {
    private final String test;
    private int asked = 0;
    private int wrong = 0;

    Due(String test) {
        this.test = test;
    }

    void is(String what, long got, long want) {
        asked++;
        if (got != want) {
            tell(what + " answered " + got + ", due is " + want);
        }
    }

    void is(String what, boolean got, boolean want) {
        is(what, got ? 1 : 0, want ? 1 : 0);
    }

    /** A fraction that a call gives as above and below. */
    void isFraction(String what, Callable<Long> above, Callable<Long> below, long wantAbove, long wantBelow) {
        is(what + ", above", answer(what, above), wantAbove);
        is(what + ", below", answer(what, below), wantBelow);
    }

    void throwsNone(String what, Callable<? extends Number> call) {
        asked++;
        try {
            tell(what + " answered " + call.call() + ", due is NoSuchElementException");
        } catch (NoSuchElementException e) {
            if (e.getClass() != NoSuchElementException.class) {
                tell(what + " threw " + e);
            }
        } catch (Exception e) {
            tell(what + " threw " + e);
        }
    }

    private long answer(String what, Callable<Long> call) {
        try {
            return call.call();
        } catch (Exception e) {
            tell(what + " threw " + e);
            return Long.MIN_VALUE;
        }
    }

    void tell(String words) {
        wrong++;
        if (wrong <= 50) {
            System.out.println(test + ": " + words);
        }
    }

    int wrong() {
        return wrong;
    }

    void close() {
        System.out.println(test + ": " + asked + " answers, " + wrong + " not as due");
        if (wrong != 0) {
            System.exit(1);
        }
    }
}
