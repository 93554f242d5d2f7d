/** Objects that the tests begin with. */
final class Made {
    private Made() {
    }

    /** Both pictures hold something of all; a stream is written, a way done, a crop refused last. */
    static Counted rich() {
        Counted x = new Counted(12, 9);
        x.tile(1, 1, 3, 2);
        x.byteOf(0, 200);
        x.note(0, 8, 9);
        x.write();
        x.turn(1);
        x.swap();
        x.tile(0, 0, 4, 3);
        x.tile(6, 4, 1, 1);
        x.byteOf(0, 1);
        x.byteOf(0, 255);
        x.note(11, 8, 255);
        x.note(0, 0, 0);
        x.turn(5);
        x.tile(0, 5, 2, 3);
        x.byteOf(2, 77);
        x.turn(6);
        x.crop(1, 1, 7, 10);
        return x;
    }

    /** Rich, but that no crop is refused since. */
    static Counted richAndQuiet() {
        Counted x = rich();
        x.turn(0);
        return x;
    }

    /** No room for a tile, a note, a byte of tile 7 or the other picture; a crop refused last. */
    static Counted full() {
        Counted x = new Counted(50, 2);
        x.tile(3, 1, 2, 1);
        x.note(4, 1, 44);
        x.swap();
        fill(x, 39, 20);
        x.tile(39, 0, 2, 1);
        bytes(x, 7, 12);
        x.crop(0, 0, 40, 2);
        return x;
    }

    /** Neither as wide nor as high as the other one; a crop refused last. */
    static Counted unlike() {
        Counted x = new Counted(9, 7);
        x.tile(0, 0, 2, 2);
        x.note(8, 6, 1);
        x.swap();
        x.tile(2, 2, 4, 4);
        x.crop(0, 0, 8, 6);
        x.crop(0, 0, 3, 3);
        return x;
    }

    /** 400 wide (or high), the other one as high (or wide) and 1 wide (or high); a crop refused last. */
    static Counted longest(boolean wide) {
        Counted x = wide ? new Counted(200, 3) : new Counted(3, 200);
        x.join(wide ? 2 : 3);
        x.swap();
        x.crop(0, 0, wide ? 1 : 3, wide ? 3 : 1);
        x.tile(0, 0, 1, 1);
        x.swap();
        x.tile(wide ? 336 : 0, wide ? 0 : 336, wide ? 64 : 3, wide ? 3 : 64);
        x.crop(0, 0, wide ? 399 : 3, wide ? 3 : 399);
        return x;
    }

    /** Tiles of one sample each, side by side in the upper row, and notes likewise. */
    static void fill(Counted x, int tiles, int notes) {
        for (int i = 0; i < tiles; i++) {
            x.tile(i, 0, 1, 1);
        }
        for (int i = 0; i < notes; i++) {
            x.note(i, 0, i);
        }
    }

    static void bytes(Counted x, int tile, int count) {
        for (int i = 0; i < count; i++) {
            x.byteOf(tile, 100 + i);
        }
    }
}
