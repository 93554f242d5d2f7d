import java.util.Random;
import java.util.function.IntSupplier;

/** Long runs of calls, the same ones every time, against the model that holds every sample. */
public final class ModelTest {
    private static final int RUNS = 1500;
    private static final int CALLS = 512;
    private static final int[] EXTREMES = {-1, Integer.MIN_VALUE, Integer.MAX_VALUE, 256, 64, 65, 400};
    private static final Check check = new Check();

    private final Random random;
    private final LossFreeTools tools;
    private final GridModel model;
    private final int run;
    private int calls = 0;

    private ModelTest(int run) {
        this.run = run;
        random = new Random(run);
        int most = run % 25 == 0 ? 210 : run % 3 == 0 ? 40 : 9;
        int w = random.nextInt(most);
        int h = random.nextInt(most);
        tools = new LossFreeTools(w, h);
        model = new GridModel(w, h);
    }

    public static void main(String[] args) {
        for (int run = 0; run < RUNS; run++) {
            new ModelTest(run).play();
        }
        check.end();
    }

    private void play() {
        // The last calls of a run read what the others have left.
        int changes = 40 + random.nextInt(CALLS - 140);
        while (calls < changes) {
            change();
            if (random.nextInt(3) == 0) {
                read();
            }
        }
        compare("write()", tools::write, model::write);
        int length = model.told(4);
        for (int i = 0; i < length && calls < CALLS; i++) {
            int at = i;
            compare("streamAt(" + i + ")", () -> tools.streamAt(at), () -> model.streamAt(at));
        }
        while (calls < CALLS) {
            read();
        }
    }

    private void change() {
        int pick = random.nextInt(100);
        if (pick < 30) {
            int x = upTo(model.told(0));
            int y = upTo(model.told(1));
            int w = 1 + upTo(Math.min(64, 1 + model.told(0) / 3));
            int h = 1 + upTo(Math.min(64, 1 + model.told(1) / 3));
            compare("tile(" + x + ", " + y + ", " + w + ", " + h + ")",
                    () -> tools.tile(x, y, w, h), () -> model.tile(x, y, w, h));
        } else if (pick < 50) {
            int tile = upTo(model.told(2));
            int b = upTo(256);
            compare("byteOf(" + tile + ", " + b + ")",
                    () -> tools.byteOf(tile, b), () -> model.byteOf(tile, b));
        } else if (pick < 60) {
            int x = upTo(model.told(0));
            int y = upTo(model.told(1));
            int b = upTo(256);
            compare("note(" + x + ", " + y + ", " + b + ")",
                    () -> tools.note(x, y, b), () -> model.note(x, y, b));
        } else if (pick < 72) {
            crop();
        } else if (pick < 84) {
            int way = upTo(8);
            compare("turn(" + way + ")", () -> tools.turn(way), () -> model.turn(way));
        } else if (pick < 90) {
            compare("swap()", tools::swap, model::swap);
        } else if (pick < 97) {
            int side = upTo(4);
            compare("join(" + side + ")", () -> tools.join(side), () -> model.join(side));
        } else if (pick < 99) {
            compare("write()", tools::write, model::write);
        } else if (random.nextInt(3) == 0) {
            compare("clear()", () -> {
                tools.clear();
                return 0;
            }, model::clear);
        }
    }

    /** Mostly wide rectangles, so that a run is not soon left with one sample. */
    private void crop() {
        int x = upTo(Math.max(1, model.told(0) / 3));
        int y = upTo(Math.max(1, model.told(1) / 3));
        int w = model.told(0) - x - upTo(Math.max(1, model.told(0) / 4));
        int h = model.told(1) - y - upTo(Math.max(1, model.told(1) / 4));
        compare("crop(" + x + ", " + y + ", " + w + ", " + h + ")",
                () -> tools.crop(x, y, w, h), () -> model.crop(x, y, w, h));
        if (random.nextInt(4) != 0) {
            for (int side = 0; side < 4; side++) {
                near(side);
            }
        }
    }

    private void near(int side) {
        compare("near(" + side + ")", () -> tools.near(side), () -> model.near(side));
    }

    private void read() {
        int tile = upTo(model.told(2));
        int note = upTo(model.told(3));
        int x = upTo(model.told(0));
        int y = upTo(model.told(1));
        int what = upTo(10);
        int place = upTo(model.told(4));
        switch (random.nextInt(9)) {
            case 0, 1 -> compare("at(" + tile + ", " + what + ")",
                    () -> tools.at(tile, what), () -> model.at(tile, what));
            case 2 -> compare("byteAt(" + tile + ", " + what + ")",
                    () -> tools.byteAt(tile, what), () -> model.byteAt(tile, what));
            case 3 -> compare("shown(" + x + ", " + y + ")",
                    () -> tools.shown(x, y), () -> model.shown(x, y));
            case 4 -> compare("noteAt(" + note + ", " + what + ")",
                    () -> tools.noteAt(note, what), () -> model.noteAt(note, what));
            case 5 -> compare("streamAt(" + place + ")",
                    () -> tools.streamAt(place), () -> model.streamAt(place));
            case 6 -> compare("pointer(" + tile + ")",
                    () -> tools.pointer(tile), () -> model.pointer(tile));
            case 7 -> compare("told(" + what + ")", () -> tools.told(what), () -> model.told(what));
            default -> near(upTo(4));
        }
    }

    /** A number from 0 to below the bound; now and then one that is none of them. */
    private int upTo(int bound) {
        if (random.nextInt(60) == 0) {
            return EXTREMES[random.nextInt(EXTREMES.length)];
        }
        return random.nextInt(30) == 0 || bound < 1 ? bound : random.nextInt(bound);
    }

    private void compare(String call, IntSupplier got, IntSupplier want) {
        if (calls >= CALLS) {
            return;
        }
        calls++;
        check.due("run " + run + ", call " + calls + ": " + call,
                Check.answerOf(got), Check.answerOf(want));
    }
}
