import java.util.function.IntSupplier;

/** Compares answers with those that are due, prints the wrong ones, and counts them. */
final class Check {
    private int wrong = 0;
    private int looked = 0;

    void due(String call, int got, int want) {
        due(call, Integer.toString(got), Integer.toString(want));
    }

    void due(String call, String got, String want) {
        looked++;
        if (!got.equals(want)) {
            wrong++;
            System.out.println(call + " answered " + got + ", due is " + want);
        }
    }

    void indexOut(String call, IntSupplier made) {
        due(call, answerOf(made), "throws.IndexOutOfBoundsException");
    }

    void argument(String call, IntSupplier made) {
        due(call, answerOf(made), "throws.IllegalArgumentException");
    }

    void state(String call, IntSupplier made) {
        due(call, answerOf(made), "throws.IllegalStateException");
    }

    void noRoom(String call, IntSupplier made) {
        due(call, answerOf(made), "throws.UnsupportedOperationException");
    }

    /** The exception's own class is told, so that what the machine throws never passes as ours. */
    static String answerOf(IntSupplier made) {
        try {
            return Integer.toString(made.getAsInt());
        } catch (RuntimeException e) {
            return "throws." + e.getClass().getSimpleName();
        }
    }

    void end() {
        System.out.println(looked + " answers looked at, " + wrong + " wrong");
        if (wrong != 0 || looked == 0) {
            System.exit(1);
        }
    }
}
