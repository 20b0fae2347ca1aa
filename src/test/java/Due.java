import java.util.NoSuchElementException;
import java.util.concurrent.Callable;

/** Counts the answers that are not the ones that are due. */
final class Due {
    /** A call of which one number is still open. */
    interface Ask {
        long of(int number) throws Exception;
    }

    private final String test;
    private String words = "";
    private int asked = 0;
    private int wrong = 0;

    Due(String test) {
        this.test = test;
    }

    /** What is asked from now on is asked under these words. */
    void under(String someWords) {
        words = someWords + ": ";
    }

    void is(String what, long got, long want) {
        asked++;
        if (got != want) {
            tell(what + " answered " + got + ", due is " + want);
        }
    }

    void is(String what, boolean got, boolean want) {
        is(what, got ? 1 : 0, want ? 1 : 0);
    }

    /** A fraction that a call gives as above and below. */
    void isFraction(String what, Callable<Long> above, Callable<Long> below, long wantAbove, long wantBelow) {
        is(what + ", above", answer(what, above), wantAbove);
        is(what + ", below", answer(what, below), wantBelow);
    }

    /** A fraction whose above is asked for by a number, and its below by the next one. */
    void isFraction(String what, Ask call, int first, long wantAbove, long wantBelow) {
        isFraction(what, () -> call.of(first), () -> call.of(first + 1), wantAbove, wantBelow);
    }

    /** The same answer for each of some numbers. */
    void isFor(String what, int[] numbers, Ask call, long want) {
        for (int number : numbers) {
            is(what + " with " + number, answer(what, () -> call.of(number)), want);
        }
    }

    void throwsFor(String what, int[] numbers, Ask call) {
        for (int number : numbers) {
            throwsNone(what + " with " + number, () -> call.of(number));
        }
    }

    void throwsNone(String what, Callable<? extends Number> call) {
        asked++;
        try {
            tell(what + " answered " + call.call() + ", due is NoSuchElementException");
        } catch (NoSuchElementException e) {
            if (e.getClass() != NoSuchElementException.class) {
                tell(what + " threw " + e);
            }
        } catch (Exception e) {
            tell(what + " threw " + e);
        }
    }

    private long answer(String what, Callable<Long> call) {
        try {
            return call.call();
        } catch (Exception e) {
            tell(what + " threw " + e);
            return Long.MIN_VALUE;
        }
    }

    void tell(String fault) {
        wrong++;
        if (wrong <= 50) {
            System.out.println(test + ": " + words + fault);
        }
    }

    int asked() {
        return asked;
    }

    int wrong() {
        return wrong;
    }

    void close() {
        System.out.println(test + ": " + asked + " answers, " + wrong + " not as due");
        if (wrong != 0) {
            System.exit(1);
        }
    }
}
