import java.util.function.BooleanSupplier;
import java.util.function.LongSupplier;

/** Counts the calls whose answer is not the one that is due, and prints each of them. */
final class Due {
    static final Class<? extends RuntimeException> INDEX = IndexOutOfBoundsException.class;
    static final Class<? extends RuntimeException> ARGUMENT = IllegalArgumentException.class;
    static final Class<? extends RuntimeException> STATE = IllegalStateException.class;

    private int checked = 0;
    private int wrong = 0;

    void is(String call, long want, LongSupplier answer) {
        String got;
        try {
            got = String.valueOf(answer.getAsLong());
        } catch (RuntimeException thrown) {
            got = "throws." + thrown.getClass().getSimpleName();
        }
        compare(call, String.valueOf(want), got);
    }

    void tells(String call, boolean want, BooleanSupplier answer) {
        is(call, want ? 1 : 0, () -> answer.getAsBoolean() ? 1 : 0);
    }

    /** The call throws the exception, of exactly that class. */
    void fails(String call, Class<? extends RuntimeException> want, Runnable action) {
        String got = "no exception";
        try {
            action.run();
        } catch (RuntimeException thrown) {
            got = "throws." + thrown.getClass().getSimpleName();
        }
        compare(call, "throws." + want.getSimpleName(), got);
    }

    void compare(String call, String want, String got) {
        checked++;
        if (!want.equals(got)) {
            wrong++;
            System.out.println(call + " answered " + got + ", due is " + want);
        }
    }

    int wrong() {
        return wrong;
    }

    void end() {
        System.out.println(checked + " answers checked, " + wrong + " not as due");
        if (wrong != 0) {
            System.exit(1);
        }
    }
}
