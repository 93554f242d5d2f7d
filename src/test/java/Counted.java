/** The class behind a count of its calls, so that no test leans on what comes after the 512th. */
final class Counted {
    static final int CALLS = 512;

    private final LossFreeTools tools;
    private int calls = 0;

    Counted(int width, int height) {
        tools = new LossFreeTools(width, height);
    }

    int callsLeft() {
        return CALLS - calls;
    }

    private LossFreeTools used() {
        if (calls == CALLS) {
            throw new AssertionError("a test makes more than " + CALLS + " calls of one object");
        }
        calls++;
        return tools;
    }

    int tile(int x, int y, int w, int h) {
        return used().tile(x, y, w, h);
    }

    int byteOf(int tile, int b) {
        return used().byteOf(tile, b);
    }

    int note(int x, int y, int b) {
        return used().note(x, y, b);
    }

    int crop(int x, int y, int w, int h) {
        return used().crop(x, y, w, h);
    }

    int near(int side) {
        return used().near(side);
    }

    int turn(int way) {
        return used().turn(way);
    }

    int swap() {
        return used().swap();
    }

    int join(int side) {
        return used().join(side);
    }

    int at(int tile, int what) {
        return used().at(tile, what);
    }

    int byteAt(int tile, int i) {
        return used().byteAt(tile, i);
    }

    int shown(int x, int y) {
        return used().shown(x, y);
    }

    int noteAt(int k, int what) {
        return used().noteAt(k, what);
    }

    int write() {
        return used().write();
    }

    int streamAt(int i) {
        return used().streamAt(i);
    }

    int pointer(int tile) {
        return used().pointer(tile);
    }

    int told(int what) {
        return used().told(what);
    }

    void clear() {
        used().clear();
    }
}
