/** What a call comes to: its answer, DONE, or throws.NAME if it throws. */
final class Outcome {
    static final String DONE = "done";
    static final String INDEX = "throws.IndexOutOfBoundsException";
    static final String ARGUMENT = "throws.IllegalArgumentException";
    static final String STATE = "throws.IllegalStateException";

    /** A call with an answer, which may throw. */
    interface Call {
        Object answer();
    }

    private Outcome() {
    }

    static Object of(Call call) {
        try {
            return call.answer();
        } catch (RuntimeException e) {
            return "throws." + e.getClass().getSimpleName();
        }
    }

    static Object ofVoid(Runnable call) {
        return of(() -> {
            call.run();
            return DONE;
        });
    }
}
