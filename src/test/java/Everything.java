import java.util.LinkedHashMap;
import java.util.Map;
import java.util.function.Supplier;
import java.util.function.ToIntFunction;

/**
 * All that can be told of an object. It is asked of as many objects, each made anew in the same
 * way, as the bound on the calls of one takes.
 */
final class Everything {
    /** Pictures up to so many samples are looked at sample by sample, others at their corners. */
    private static final int SAMPLES = 400;

    private final Supplier<Counted> maker;
    private final String head;
    private final Map<String, String> answers;
    private Counted asked;

    private Everything(Supplier<Counted> maker, String head, Map<String, String> answers) {
        this.maker = maker;
        this.head = head;
        this.answers = answers;
        asked = maker.get();
    }

    static Map<String, String> of(Supplier<Counted> maker) {
        Map<String, String> answers = new LinkedHashMap<>();
        Everything here = new Everything(maker, "", answers);
        here.askNear();
        here.askCounts();
        here.askPicture();
        here.askStream();
        Everything other = new Everything(() -> swapped(maker.get()), "swap() and ", answers);
        other.askPicture();
        Everything written = new Everything(() -> written(maker.get()), "write() and ", answers);
        written.askStream();
        Everything turned = new Everything(maker, "", answers);
        turned.ask("turn(0)", x -> x.turn(0));
        return answers;
    }

    /** What a crop() that was not done may still change is taken out. */
    static Map<String, String> butNear(Map<String, String> answers) {
        Map<String, String> rest = new LinkedHashMap<>(answers);
        rest.keySet().removeIf(call -> call.startsWith("near"));
        return rest;
    }

    static void compare(Check check, String after, Map<String, String> got, Map<String, String> want) {
        check.due(after + ": what can be told", got.keySet().toString(), want.keySet().toString());
        for (Map.Entry<String, String> e : want.entrySet()) {
            check.due(after + ": then " + e.getKey(), String.valueOf(got.get(e.getKey())), e.getValue());
        }
    }

    /** The call answers so, and nothing that can be told has changed. */
    static void unchanged(Check check, Supplier<Counted> maker, String call, ToIntFunction<Counted> made,
            String answer) {
        compare(check, call, of(() -> after(check, maker, call, made, answer)), of(maker));
    }

    /** As above, but that near() may have changed. */
    static void unchangedButNear(Check check, Supplier<Counted> maker, String call,
            ToIntFunction<Counted> made, String answer) {
        compare(check, call, butNear(of(() -> after(check, maker, call, made, answer))), butNear(of(maker)));
    }

    private static Counted after(Check check, Supplier<Counted> maker, String call,
            ToIntFunction<Counted> made, String answer) {
        Counted x = maker.get();
        check.due(call, Check.answerOf(() -> made.applyAsInt(x)), answer);
        return x;
    }

    private static Counted swapped(Counted x) {
        x.swap();
        return x;
    }

    private static Counted written(Counted x) {
        x.write();
        return x;
    }

    private int ask(String call, ToIntFunction<Counted> question) {
        if (asked.callsLeft() == 0) {
            asked = maker.get();
        }
        String answer = Check.answerOf(() -> question.applyAsInt(asked));
        answers.put(head + call, answer);
        return answer.startsWith("throws") ? 0 : Integer.parseInt(answer);
    }

    private int told(int what) {
        return ask("told(" + what + ")", x -> x.told(what));
    }

    private void askNear() {
        for (int i = 0; i < 4; i++) {
            int side = i;
            ask("near(" + side + ")", x -> x.near(side));
        }
    }

    private void askCounts() {
        for (int what = -1; what <= 9; what++) {
            told(what);
        }
    }

    private void askPicture() {
        int width = told(0);
        int height = told(1);
        int tiles = told(2);
        for (int tile = 0; tile <= tiles; tile++) {
            askTile(tile);
        }
        int notes = told(3);
        for (int k = 0; k <= notes; k++) {
            askNote(k);
        }
        if (width * height <= SAMPLES) {
            for (int i = 0; i < width * height; i++) {
                askShown(i % width, i / width);
            }
        } else {
            askCorners(-1, -1, width + 2, height + 2);
            askCorners(0, 0, width, height);
        }
    }

    private void askTile(int tile) {
        int[] at = new int[8];
        for (int i = 0; i < at.length; i++) {
            int what = i;
            at[i] = ask("at(" + tile + ", " + what + ")", x -> x.at(tile, what));
        }
        for (int i = 0; i <= at[5]; i++) {
            int k = i;
            ask("byteAt(" + tile + ", " + k + ")", x -> x.byteAt(tile, k));
        }
        ask("pointer(" + tile + ")", x -> x.pointer(tile));
        askCorners(at[0], at[1], at[2], at[3]);
    }

    private void askNote(int k) {
        for (int i = 0; i < 3; i++) {
            int what = i;
            ask("noteAt(" + k + ", " + what + ")", x -> x.noteAt(k, what));
        }
    }

    private void askCorners(int x, int y, int w, int h) {
        askShown(x, y);
        askShown(x + w - 1, y);
        askShown(x, y + h - 1);
        askShown(x + w - 1, y + h - 1);
    }

    private void askShown(int x, int y) {
        ask("shown(" + x + ", " + y + ")", t -> t.shown(x, y));
    }

    private void askStream() {
        int length = told(4);
        for (int i = 0; i <= length; i++) {
            int k = i;
            ask("streamAt(" + k + ")", x -> x.streamAt(k));
        }
    }
}
