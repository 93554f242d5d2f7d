import java.util.function.IntSupplier;
import java.util.function.IntUnaryOperator;

/** Compares answers with those that are due, prints the wrong ones, and counts them. */
final class Check {
    static final String INDEX = "throws.IndexOutOfBoundsException";
    static final String ARGUMENT = "throws.IllegalArgumentException";
    static final String STATE = "throws.IllegalStateException";
    static final String NO_ROOM = "throws.UnsupportedOperationException";

    private String sentence = "";
    private boolean sentenceLooked = true;
    private int wrong = 0;
    private int looked = 0;

    /** What follows is looked at for these words of the document. */
    void promise(int number, String words) {
        endSentence();
        sentence = "promise " + number + ", \"" + words + "\": ";
        sentenceLooked = false;
    }

    /** A sentence without an answer would pass unseen. */
    private void endSentence() {
        if (!sentenceLooked) {
            wrong++;
            System.out.println(sentence + "no answer was looked at");
        }
    }

    void due(String call, int got, int want) {
        due(call, Integer.toString(got), Integer.toString(want));
    }

    void due(String call, String got, String want) {
        looked++;
        sentenceLooked = true;
        if (!got.equals(want)) {
            wrong++;
            System.out.println(sentence + call + " answered " + got + ", due is " + want);
        }
    }

    void indexOut(String call, IntSupplier made) {
        due(call, answerOf(made), INDEX);
    }

    void argument(String call, IntSupplier made) {
        due(call, answerOf(made), ARGUMENT);
    }

    void state(String call, IntSupplier made) {
        due(call, answerOf(made), STATE);
    }

    void noRoom(String call, IntSupplier made) {
        due(call, answerOf(made), NO_ROOM);
    }

    /** told(0), told(1) and so on. */
    void told(Counted x, int... due) {
        each("told(", x::told, due);
    }

    /** at(tile, 0), at(tile, 1) and so on. */
    void at(Counted x, int tile, int... due) {
        each("at(" + tile + ", ", what -> x.at(tile, what), due);
    }

    /** noteAt(k, 0), noteAt(k, 1) and so on. */
    void note(Counted x, int k, int... due) {
        each("noteAt(" + k + ", ", what -> x.noteAt(k, what), due);
    }

    /** near(0), near(1) and so on. */
    void near(Counted x, int... due) {
        each("near(", x::near, due);
    }

    private void each(String call, IntUnaryOperator made, int... due) {
        for (int i = 0; i < due.length; i++) {
            int last = i;
            due(call + last + ")", answerOf(() -> made.applyAsInt(last)), Integer.toString(due[i]));
        }
    }

    /** The exception's own class is told, so that what the machine throws never passes as ours. */
    static String answerOf(IntSupplier made) {
        try {
            return Integer.toString(made.getAsInt());
        } catch (RuntimeException e) {
            return "throws." + e.getClass().getSimpleName();
        }
    }

    void end() {
        endSentence();
        System.out.println(looked + " answers looked at, " + wrong + " wrong");
        if (wrong != 0 || looked == 0) {
            System.exit(1);
        }
    }
}
