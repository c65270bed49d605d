import java.util.function.BooleanSupplier;
import java.util.function.LongSupplier;

/** Counts the calls whose answer is not the one that is due, and prints each of them. */
final class Due {
    static final Class<? extends RuntimeException> INDEX = IndexOutOfBoundsException.class;
    static final Class<? extends RuntimeException> ARGUMENT = IllegalArgumentException.class;
    static final Class<? extends RuntimeException> STATE = IllegalStateException.class;

    private String test = "";
    private int checked = 0;
    private int wrong = 0;

    /** What is checked from now on is told with the name of this test. */
    void begin(String name) {
        test = name + ": ";
    }

    void is(String call, long want, LongSupplier answer) {
        compare(call, String.valueOf(want), told(answer));
    }

    void tells(String call, boolean want, BooleanSupplier answer) {
        is(call, want ? 1 : 0, () -> answer.getAsBoolean() ? 1 : 0);
    }

    /** The call throws the exception, of exactly that class. */
    void fails(String call, Class<? extends RuntimeException> want, Runnable action) {
        String got = told(() -> {
            action.run();
            return 0;
        });
        compare(call, "throws." + want.getSimpleName(), got.equals("0") ? "no exception" : got);
    }

    void is(long want, LongSupplier answer) {
        is(line(), want, answer);
    }

    void tells(boolean want, BooleanSupplier answer) {
        tells(line(), want, answer);
    }

    void fails(Class<? extends RuntimeException> want, Runnable action) {
        fails(line(), want, action);
    }

    /** The answer of a call as a text, the name of the exception if it throws. */
    static String told(LongSupplier call) {
        try {
            return String.valueOf(call.getAsLong());
        } catch (RuntimeException thrown) {
            return "throws." + thrown.getClass().getSimpleName();
        }
    }

    /** The line of the test that asks, which tells the call where no name of it is given. */
    private static String line() {
        return StackWalker.getInstance().walk(frames -> frames
            .filter(frame -> !frame.getClassName().equals("Due"))
            .findFirst()
            .map(frame -> frame.getFileName() + ":" + frame.getLineNumber())
            .orElse("?"));
    }

    void compare(String call, String want, String got) {
        checked++;
        if (!want.equals(got)) {
            wrong++;
            System.out.println(test + call + " answered " + got + ", due is " + want);
        }
    }

    int wrong() {
        return wrong;
    }

    void end() {
        System.out.println(checked + " answers checked, " + wrong + " not as due");
        if (wrong != 0) {
            System.exit(1);
        }
    }
}
