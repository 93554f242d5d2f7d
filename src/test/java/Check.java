import java.util.function.IntSupplier;

/** Compares answers with those that are due, prints the wrong ones, and counts them. */
final class Check {
    private String sentence = "";
    private boolean sentenceLooked = true;
    private int wrong = 0;
    private int looked = 0;

    /** What follows is looked at for these words of the document. */
    void promise(int number, String words) {
        endSentence();
        sentence = "promise " + number + ", \"" + words + "\": ";
        sentenceLooked = false;
    }

    /** A sentence without an answer would pass unseen. */
    private void endSentence() {
        if (!sentenceLooked) {
            wrong++;
            System.out.println(sentence + "no answer was looked at");
        }
    }

    void due(String call, int got, int want) {
        due(call, Integer.toString(got), Integer.toString(want));
    }

    void due(String call, String got, String want) {
        looked++;
        sentenceLooked = true;
        if (!got.equals(want)) {
            wrong++;
            System.out.println(sentence + call + " answered " + got + ", due is " + want);
        }
    }

    void indexOut(String call, IntSupplier made) {
        due(call, answerOf(made), "throws.IndexOutOfBoundsException");
    }

    void argument(String call, IntSupplier made) {
        due(call, answerOf(made), "throws.IllegalArgumentException");
    }

    void state(String call, IntSupplier made) {
        due(call, answerOf(made), "throws.IllegalStateException");
    }

    void noRoom(String call, IntSupplier made) {
        due(call, answerOf(made), "throws.UnsupportedOperationException");
    }

    /** told(0), told(1) and so on. */
    void told(Counted x, int... due) {
        for (int what = 0; what < due.length; what++) {
            due("told(" + what + ")", x.told(what), due[what]);
        }
    }

    /** at(tile, 0), at(tile, 1) and so on. */
    void at(Counted x, int tile, int... due) {
        for (int what = 0; what < due.length; what++) {
            due("at(" + tile + ", " + what + ")", x.at(tile, what), due[what]);
        }
    }

    /** noteAt(k, 0), noteAt(k, 1) and so on. */
    void note(Counted x, int k, int... due) {
        for (int what = 0; what < due.length; what++) {
            due("noteAt(" + k + ", " + what + ")", x.noteAt(k, what), due[what]);
        }
    }

    /** near(0), near(1) and so on. */
    void near(Counted x, int... due) {
        for (int side = 0; side < due.length; side++) {
            due("near(" + side + ")", x.near(side), due[side]);
        }
    }

    /** The exception's own class is told, so that what the machine throws never passes as ours. */
    static String answerOf(IntSupplier made) {
        try {
            return Integer.toString(made.getAsInt());
        } catch (RuntimeException e) {
            return "throws." + e.getClass().getSimpleName();
        }
    }

    void end() {
        endSentence();
        System.out.println(looked + " answers looked at, " + wrong + " wrong");
        if (wrong != 0 || looked == 0) {
            System.exit(1);
        }
    }
}
