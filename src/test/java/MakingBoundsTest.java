/** Promises 1 to 4 at their bounds: a new object, its tiles, their bytes, and notes. */
public final class MakingBoundsTest {
    private static final int MIN = Integer.MIN_VALUE;
    private static final int MAX = Integer.MAX_VALUE;
    private static final Check check = new Check();

    public static void main(String[] args) {
        promise1SizesThatAreAllowed();
        promise1SizesThatAreNot();
        promise1SizesBindBothPictures();
        promise1Empty();
        promise1ObjectsApart();
        promise2LeastAndGreatestTile();
        promise2TileOfNoSuchSize();
        promise2TileAtThePicturesEdges();
        promise2TileOutside();
        promise2TileWhoseSumsWrap();
        promise2TileInAPictureThatChanged();
        promise2TilesSideBySide();
        promise2TileOverTheFirstOrTheLast();
        promise2TilesOfTheOtherDoNotCount();
        promise2FortyTiles();
        promise2ShownAsItIs();
        promise2FirstException();
        promise2ChangesNothing();
        promise3NoSuchTile();
        promise3LeastAndGreatestByte();
        promise3TwelveBytes();
        promise3TwelveWhateverIsDone();
        promise3FirstException();
        promise3ChangesNothing();
        promise4SamplesAtTheEdges();
        promise4LeastAndGreatestByte();
        promise4TwentyNotes();
        promise4NotesInTheirOrder();
        promise4FirstException();
        promise4ChangesNothing();
        check.end();
    }

    private static void promise1SizesThatAreAllowed() {
        check.promise(1, "Both PICTURES have a width and a height, 1 .. 200");
        int[] sizes = {1, 2, 3, 100, 199, 200};
        for (int w : sizes) {
            for (int h : sizes) {
                check.told(new Counted(w, h), w, h, 0, 0, 0, w, h, 0, 0);
            }
        }
    }

    private static void promise1SizesThatAreNot() {
        check.promise(1, "others count as the nearest");
        for (int small : new int[] {0, -1, -2, -200, MIN + 1, MIN}) {
            check.told(new Counted(small, 7), 1, 7, 0, 0, 0, 1, 7, 0, 0);
            check.told(new Counted(7, small), 7, 1, 0, 0, 0, 7, 1, 0, 0);
            check.told(new Counted(small, small), 1, 1, 0, 0, 0, 1, 1, 0, 0);
        }
        for (int large : new int[] {201, 202, 256, 400, 401, MAX - 1, MAX}) {
            check.told(new Counted(large, 7), 200, 7, 0, 0, 0, 200, 7, 0, 0);
            check.told(new Counted(7, large), 7, 200, 0, 0, 0, 7, 200, 0, 0);
            check.told(new Counted(large, large), 200, 200, 0, 0, 0, 200, 200, 0, 0);
        }
        check.told(new Counted(MIN, MAX), 1, 200, 0, 0, 0, 1, 200, 0, 0);
        check.told(new Counted(MAX, MIN), 200, 1, 0, 0, 0, 200, 1, 0, 0);
    }

    private static void promise1SizesBindBothPictures() {
        check.promise(1, "Both PICTURES have a width and a height");
        Counted x = new Counted(MAX, 0);
        for (int picture = 0; picture < 2; picture++) {
            check.due("the last sample", x.shown(199, 0), -1);
            check.indexOut("the first one beyond", () -> x.shown(200, 0));
            check.indexOut("the first one below", () -> x.shown(199, 1));
            check.due("a tile on the last one", x.tile(199, 0, 1, 1), 0);
            x.swap();
        }
    }

    private static void promise1Empty() {
        check.promise(1, "no tiles, no notes");
        Counted x = new Counted(3, 2);
        for (int picture = 0; picture < 2; picture++) {
            check.told(x, 3, 2, 0, 0, 0, 3, 2, 0, 0);
            check.indexOut("at(0, 0)", () -> x.at(0, 0));
            check.indexOut("byteAt(0, 0)", () -> x.byteAt(0, 0));
            check.indexOut("pointer(0)", () -> x.pointer(0));
            check.indexOut("noteAt(0, 0)", () -> x.noteAt(0, 0));
            for (int i = 0; i < 6; i++) {
                check.due("shown", x.shown(i % 3, i / 3), -1);
            }
            check.indexOut("streamAt(0)", () -> x.streamAt(0));
            check.state("near(0)", () -> x.near(0));
            check.due("turn(0)", x.turn(0), 0);
            x.swap();
        }
    }

    /** What is done with one object is nothing to another one, made before it or after it. */
    private static void promise1ObjectsApart() {
        check.promise(1, "Both PICTURES have a width and a height, no tiles, no notes");
        Everything.compare(check, "among others", Everything.of(MakingBoundsTest::richAmongOthers),
                Everything.of(Made::rich));
        Everything.compare(check, "new among others", Everything.of(MakingBoundsTest::newAmongOthers),
                Everything.of(() -> new Counted(12, 9)));
    }

    private static Counted richAmongOthers() {
        Counted before = new Counted(200, 200);
        Counted x = Made.rich();
        before.tile(0, 0, 64, 64);
        before.turn(3);
        before.crop(0, 0, 20, 20);
        Counted after = Made.full();
        after.write();
        Made.unlike().clear();
        return x;
    }

    private static Counted newAmongOthers() {
        Counted before = Made.full();
        before.write();
        Counted x = new Counted(12, 9);
        before.turn(1);
        before.crop(0, 0, 1, 5);
        Made.rich().write();
        return x;
    }

    private static void promise2LeastAndGreatestTile() {
        check.promise(2, "w or h is not 1 .. 64");
        for (int w : new int[] {1, 2, 63, 64}) {
            for (int h : new int[] {1, 2, 63, 64}) {
                Counted x = new Counted(200, 200);
                check.due("tile " + w + " times " + h, x.tile(5, 6, w, h), 0);
                check.at(x, 0, 5, 6, w, h, 0, 0, w, h);
                check.due("its first sample", x.shown(5, 6), 0);
                check.due("its last sample", x.shown(4 + w, 5 + h), 64 * (h - 1) + w - 1);
                check.due("beside it", x.shown(5 + w, 6), -1);
                check.due("below it", x.shown(5, 6 + h), -1);
            }
        }
    }

    private static void promise2TileOfNoSuchSize() {
        check.promise(2, "w or h is not 1 .. 64");
        Counted x = new Counted(200, 200);
        for (int size : new int[] {0, -1, -63, -64, -65, MIN, MIN + 1, 65, 66, 128, 199, 200, MAX - 1, MAX}) {
            for (int from : new int[] {0, 1, 100}) {
                check.argument("w = " + size, () -> x.tile(from, 0, size, 1));
                check.argument("h = " + size, () -> x.tile(0, from, 1, size));
                check.argument("both " + size, () -> x.tile(from, from, size, size));
            }
        }
        check.due("tiles", x.told(2), 0);
    }

    private static void promise2TileAtThePicturesEdges() {
        check.promise(2, "it lies not wholly in the PICTURE");
        for (int size : new int[] {1, 2, 64}) {
            int last = 70 - size;
            for (int place : new int[] {0, last}) {
                Counted x = new Counted(70, 70);
                check.due("in the corner", x.tile(place, place, size, size), 0);
                check.at(x, 0, place, place, size, size, 0, 0, size, size);
            }
            Counted x = new Counted(70, 70);
            for (int place : new int[] {-1, -size, -size - 1, last + 1, 70, 71}) {
                check.argument("x = " + place, () -> x.tile(place, 3, size, 1));
                check.argument("y = " + place, () -> x.tile(3, place, 1, size));
            }
        }
        Counted whole = new Counted(64, 64);
        check.due("the whole picture", whole.tile(0, 0, 64, 64), 0);
        Counted least = new Counted(1, 1);
        check.argument("2 wide in the least picture", () -> least.tile(0, 0, 2, 1));
        check.argument("2 high in the least picture", () -> least.tile(0, 0, 1, 2));
        check.due("the whole of the least picture", least.tile(0, 0, 1, 1), 0);
    }

    private static void promise2TileOutside() {
        check.promise(2, "it lies not wholly in the PICTURE");
        Counted x = new Counted(30, 20);
        int[][] outside = {{30, 0, 1, 1}, {0, 20, 1, 1}, {29, 0, 2, 1}, {0, 19, 1, 2}, {0, 0, 31, 1},
            {0, 0, 1, 21}, {-1, 0, 1, 1}, {0, -1, 1, 1}, {-1, 0, 32, 1}, {0, -1, 1, 22}, {-1, -1, 2, 2},
            {29, 19, 2, 2}, {20, 0, 11, 1}, {0, 10, 1, 11}, {0, 25, 1, 1}, {25, 20, 1, 1}};
        for (int[] o : outside) {
            check.argument("tile outside", () -> x.tile(o[0], o[1], o[2], o[3]));
        }
        check.due("tiles", x.told(2), 0);
    }

    private static void promise2TileWhoseSumsWrap() {
        check.promise(2, "it lies not wholly in the PICTURE");
        Counted x = new Counted(200, 200);
        for (int size : new int[] {1, 2, 63, 64}) {
            for (int far : new int[] {MAX, MAX - 1, MAX - size, MAX - size + 1, MAX - size + 2, MIN, MIN + 1,
                MIN + size, MIN + 64, -size, 1 << 30, -(1 << 30), 1 << 16, 1 << 24}) {
                check.argument("x = " + far, () -> x.tile(far, 0, size, 1));
                check.argument("y = " + far, () -> x.tile(0, far, 1, size));
                check.argument("both " + far, () -> x.tile(far, far, size, size));
            }
        }
        check.due("tiles", x.told(2), 0);
    }

    private static void promise2TileInAPictureThatChanged() {
        check.promise(2, "it lies not wholly in the PICTURE");
        Counted joined = new Counted(200, 3);
        joined.join(0);
        check.argument("one beyond 400", () -> joined.tile(337, 0, 64, 1));
        check.argument("at 400", () -> joined.tile(400, 0, 1, 1));
        check.due("the last of 400", joined.tile(336, 0, 64, 1), 0);
        joined.turn(1);
        check.argument("one beyond, turned", () -> joined.tile(0, 337, 1, 64));
        check.argument("where it was before the turn", () -> joined.tile(100, 0, 1, 1));
        check.due("turned", joined.tile(0, 336, 1, 64), 1);
        Counted cropped = new Counted(10, 8);
        cropped.crop(2, 3, 5, 4);
        check.argument("beyond the crop", () -> cropped.tile(4, 0, 2, 1));
        check.argument("below the crop", () -> cropped.tile(0, 3, 1, 2));
        check.due("the whole of the crop", cropped.tile(0, 0, 5, 4), 0);
        cropped.swap();
        check.due("the other one is as large as it was", cropped.tile(0, 0, 10, 8), 0);
    }

    /** Every small rectangle round a tile, against the samples that both of them have. */
    private static void promise2TilesSideBySide() {
        check.promise(2, "another one has a sample in common with it");
        for (int w = 1; w <= 6; w++) {
            for (int h = 1; h <= 5; h++) {
                for (int y = 0; y + h <= 9; y++) {
                    for (int x = 0; x + w <= 10; x++) {
                        secondTile(x, y, w, h);
                    }
                }
            }
        }
    }

    private static void secondTile(int x, int y, int w, int h) {
        Counted t = new Counted(10, 9);
        t.tile(3, 4, 3, 2);
        boolean common = false;
        for (int i = 0; i < w * h; i++) {
            common |= t.shown(x + i % w, y + i / w) != -1;
        }
        check.due("tile(" + x + ", " + y + ", " + w + ", " + h + ") beside (3, 4, 3, 2)",
                Check.answerOf(() -> t.tile(x, y, w, h)), common ? Check.STATE : "1");
        check.due("tiles", t.told(2), common ? 1 : 2);
    }

    private static void promise2TileOverTheFirstOrTheLast() {
        check.promise(2, "another one has a sample in common with it");
        Counted x = new Counted(42, 2);
        Made.fill(x, 40, 0);
        for (int i = 0; i < 40; i++) {
            int place = i;
            check.state("over tile " + i, () -> x.tile(place, 0, 1, 2));
        }
        check.state("over all of them", () -> x.tile(0, 0, 42, 2));
        Counted same = new Counted(9, 9);
        same.tile(2, 3, 4, 5);
        check.state("the same once more", () -> same.tile(2, 3, 4, 5));
        same.turn(1);
        check.due("where it was before the turn", same.tile(0, 6, 2, 2), 1);
        check.state("where it is now", () -> same.tile(1, 2, 1, 1));
        check.state("at its last sample now", () -> same.tile(5, 5, 1, 1));
        check.due("beyond its last sample", same.tile(6, 6, 1, 1), 2);
    }

    private static void promise2TilesOfTheOtherDoNotCount() {
        check.promise(2, "A TILE more of THIS one");
        Counted x = new Counted(9, 9);
        x.tile(0, 0, 9, 9);
        x.swap();
        check.due("in the same place", x.tile(0, 0, 9, 9), 0);
        check.told(x, 9, 9, 1, 0, 0, 9, 9, 1, 0);
    }

    private static void promise2FortyTiles() {
        check.promise(2, "UnsupportedOperation: there are 40");
        Counted x = new Counted(50, 2);
        for (int i = 0; i < 40; i++) {
            check.due("tile", x.tile(i, 0, 1, 1), i);
            check.due("tiles", x.told(2), i + 1);
        }
        check.noRoom("tile 41", () -> x.tile(40, 0, 1, 1));
        check.noRoom("tile 41 once more", () -> x.tile(0, 1, 50, 1));
        check.due("tiles", x.told(2), 40);
        x.swap();
        Made.fill(x, 39, 0);
        check.due("the other one has its own room", x.tile(39, 0, 1, 1), 39);
        check.noRoom("and no more", () -> x.tile(40, 0, 1, 1));
        check.due("crop by one tile", x.crop(1, 0, 49, 2), 39);
        check.due("there is room again", x.tile(39, 0, 1, 1), 39);
        check.noRoom("for one", () -> x.tile(40, 0, 1, 1));
        x.clear();
        check.due("after clear()", x.tile(0, 0, 1, 1), 0);
    }

    private static void promise2ShownAsItIs() {
        check.promise(2, "shown as it is (WAY 0): its number");
        for (int way = 0; way < 8; way++) {
            Counted x = new Counted(9, 9);
            x.tile(0, 0, 1, 2);
            x.turn(way);
            check.due("a tile more", x.tile(3, 4, 3, 2), 1);
            check.at(x, 1, 3, 4, 3, 2, 0, 0, 3, 2);
            for (int i = 0; i < 6; i++) {
                check.due("shown", x.shown(3 + i % 3, 4 + i / 3), 4096 + 64 * (i / 3) + i % 3);
            }
        }
    }

    private static void promise2FirstException() {
        check.promise(2, "Of several that a call names, the first one");
        Counted x = new Counted(60, 2);
        x.tile(0, 0, 60, 1);
        check.argument("outside and over another", () -> x.tile(59, 0, 2, 1));
        check.argument("too wide and over another", () -> x.tile(0, 0, 65, 1));
        check.argument("without a sample and over another", () -> x.tile(0, 0, 0, 1));
        Counted full = new Counted(66, 2);
        Made.fill(full, 40, 0);
        check.argument("outside, full", () -> full.tile(65, 1, 2, 1));
        check.argument("too wide, full", () -> full.tile(0, 1, 65, 1));
        check.argument("outside, over another and full", () -> full.tile(-1, 0, 2, 1));
        check.state("over another and full", () -> full.tile(39, 0, 2, 1));
        check.noRoom("full alone", () -> full.tile(40, 0, 2, 1));
    }

    private static void promise2ChangesNothing() {
        check.promise(2, "A call that throws changes nothing");
        Everything.unchanged(check, Made::rich, "tile(0, 0, 65, 1)", x -> x.tile(0, 0, 65, 1), Check.ARGUMENT);
        Everything.unchanged(check, Made::rich, "tile(0, 0, 1, 0)", x -> x.tile(0, 0, 1, 0), Check.ARGUMENT);
        Everything.unchanged(check, Made::rich, "tile(-1, 0, 1, 1)", x -> x.tile(-1, 0, 1, 1), Check.ARGUMENT);
        Everything.unchanged(check, Made::rich, "tile(MAX, 0, 1, 1)", x -> x.tile(MAX, 0, 1, 1), Check.ARGUMENT);
        Everything.unchanged(check, Made::rich, "tile over another",
                x -> x.tile(x.at(1, 0), x.at(1, 1), 1, 1), Check.STATE);
        Everything.unchanged(check, Made::full, "tile(49, 1, 1, 1)", x -> x.tile(49, 1, 1, 1), Check.NO_ROOM);
        Everything.unchanged(check, Made::full, "tile(0, 0, 1, 1)", x -> x.tile(0, 0, 1, 1), Check.STATE);
        Everything.unchanged(check, Made::full, "tile(50, 0, 1, 1)", x -> x.tile(50, 0, 1, 1), Check.ARGUMENT);
    }

    private static void promise3NoSuchTile() {
        check.promise(3, "IndexOutOfBounds: there is no such tile");
        Counted x = new Counted(50, 2);
        for (int tile : new int[] {0, -1, 1, MIN, MAX}) {
            check.indexOut("byteOf without tiles", () -> x.byteOf(tile, 0));
        }
        Made.fill(x, 1, 0);
        for (int tile : new int[] {-1, 1, 2, 39, 40, MIN, MAX, 256, 1 << 16}) {
            check.indexOut("byteOf of another tile than 0", () -> x.byteOf(tile, 0));
        }
        x.swap();
        check.indexOut("the other one's tile", () -> x.byteOf(0, 0));
        Made.fill(x, 40, 0);
        check.due("byteOf(39, 5)", x.byteOf(39, 5), 1);
        check.indexOut("byteOf(40, 5)", () -> x.byteOf(40, 5));
        x.crop(0, 0, 39, 2);
        check.indexOut("byteOf of a tile that went", () -> x.byteOf(39, 5));
        check.due("byteOf(38, 5)", x.byteOf(38, 5), 1);
    }

    private static void promise3LeastAndGreatestByte() {
        check.promise(3, "IllegalArgument: another number is none that is told");
        Counted x = new Counted(5, 5);
        x.tile(0, 0, 1, 1);
        int[] bytes = {0, 1, 127, 128, 254, 255};
        for (int i = 0; i < bytes.length; i++) {
            check.due("byteOf(0, " + bytes[i] + ")", x.byteOf(0, bytes[i]), i + 1);
            check.due("byteAt(0, " + i + ")", x.byteAt(0, i), bytes[i]);
        }
        for (int b : new int[] {-1, -128, -255, -256, 256, 257, 511, 512, 65536, MIN, MIN + 1, MAX}) {
            check.argument("byteOf(0, " + b + ")", () -> x.byteOf(0, b));
        }
        check.due("bytes", x.at(0, 5), bytes.length);
    }

    private static void promise3TwelveBytes() {
        check.promise(3, "how many it has. UnsupportedOperation: there are 12");
        Counted x = new Counted(5, 5);
        x.tile(0, 0, 1, 1);
        x.tile(1, 0, 1, 1);
        check.due("none at first", x.at(0, 5), 0);
        for (int i = 0; i < 12; i++) {
            check.due("byteOf", x.byteOf(0, 20 * i), i + 1);
            check.due("bytes", x.at(0, 5), i + 1);
        }
        check.noRoom("byte 13", () -> x.byteOf(0, 0));
        check.noRoom("byte 13 once more", () -> x.byteOf(0, 255));
        check.due("another tile has its own room", x.at(1, 5), 0);
        for (int i = 0; i < 12; i++) {
            check.due("byteOf of the other tile", x.byteOf(1, i), i + 1);
        }
        check.noRoom("byte 13 of the other tile", () -> x.byteOf(1, 0));
        for (int i = 0; i < 12; i++) {
            check.due("byteAt(0, ..)", x.byteAt(0, i), 20 * i);
            check.due("byteAt(1, ..)", x.byteAt(1, i), i);
        }
    }

    private static void promise3TwelveWhateverIsDone() {
        check.promise(3, "UnsupportedOperation: there are 12");
        Counted x = new Counted(6, 5);
        x.tile(4, 0, 1, 1);
        x.tile(1, 2, 2, 1);
        Made.bytes(x, 1, 12);
        x.turn(7);
        check.noRoom("turned", () -> x.byteOf(1, 0));
        x.turn(7);
        x.crop(0, 0, 4, 5);
        check.noRoom("cropped, it is tile 0 now", () -> x.byteOf(0, 0));
        x.swap();
        x.crop(0, 0, 4, 5);
        check.due("a tile of the other one", x.tile(1, 2, 2, 1), 0);
        check.due("has its own room", x.byteOf(0, 1), 1);
        x.join(2);
        check.noRoom("joined, it is tile 1 now", () -> x.byteOf(1, 0));
        check.due("byteOf(0, 2)", x.byteOf(0, 2), 2);
        x.clear();
        x.tile(0, 0, 1, 1);
        x.tile(1, 0, 1, 1);
        for (int tile = 0; tile < 2; tile++) {
            for (int i = 0; i < 12; i++) {
                check.due("after clear() there is room again", x.byteOf(tile, 9), i + 1);
            }
        }
    }

    private static void promise3FirstException() {
        check.promise(3, "Of several that a call names, the first one");
        Counted x = new Counted(5, 5);
        x.tile(0, 0, 1, 1);
        Made.bytes(x, 0, 12);
        for (int b : new int[] {-1, 256, MIN, MAX}) {
            check.indexOut("no tile, no byte", () -> x.byteOf(1, b));
            check.indexOut("no tile, no byte", () -> x.byteOf(-1, b));
            check.argument("no byte, no room", () -> x.byteOf(0, b));
        }
        check.noRoom("no room alone", () -> x.byteOf(0, 0));
    }

    private static void promise3ChangesNothing() {
        check.promise(3, "A call that throws changes nothing");
        Everything.unchanged(check, Made::rich, "byteOf(3, 1)", x -> x.byteOf(3, 1), Check.INDEX);
        Everything.unchanged(check, Made::rich, "byteOf(-1, 1)", x -> x.byteOf(-1, 1), Check.INDEX);
        Everything.unchanged(check, Made::rich, "byteOf(0, 256)", x -> x.byteOf(0, 256), Check.ARGUMENT);
        Everything.unchanged(check, Made::rich, "byteOf(2, -1)", x -> x.byteOf(2, -1), Check.ARGUMENT);
        Everything.unchanged(check, Made::full, "byteOf(7, 1)", x -> x.byteOf(7, 1), Check.NO_ROOM);
        Everything.unchanged(check, Made::full, "byteOf(40, 1)", x -> x.byteOf(40, 1), Check.INDEX);
    }

    private static void promise4SamplesAtTheEdges() {
        check.promise(4, "IndexOutOfBounds: there is no such sample");
        Counted x = new Counted(30, 20);
        int[][] corners = {{0, 0}, {29, 0}, {0, 19}, {29, 19}};
        for (int i = 0; i < corners.length; i++) {
            check.due("note in the corner", x.note(corners[i][0], corners[i][1], i), i + 1);
        }
        int[][] outside = {{-1, 0}, {0, -1}, {30, 0}, {0, 20}, {29, 20}, {30, 19}, {25, 20}, {30, 20}, {MIN, 0},
            {0, MIN}, {MAX, 0}, {0, MAX}, {MAX, MAX}, {MIN, MIN}, {-1, -1}};
        for (int[] o : outside) {
            check.indexOut("note outside", () -> x.note(o[0], o[1], 1));
        }
        check.due("notes", x.told(3), 4);
        x.turn(1);
        check.indexOut("outside when turned", () -> x.note(20, 0, 1));
        check.due("inside when turned", x.note(19, 29, 1), 5);
        Counted wide = new Counted(200, 1);
        wide.join(0);
        check.due("the last of 400", wide.note(399, 0, 1), 1);
        check.indexOut("one beyond 400", () -> wide.note(400, 0, 1));
    }

    private static void promise4LeastAndGreatestByte() {
        check.promise(4, "IllegalArgument: another number is none that is told");
        Counted x = new Counted(5, 5);
        int[] bytes = {0, 1, 127, 128, 254, 255};
        for (int i = 0; i < bytes.length; i++) {
            check.due("note(4, 3, " + bytes[i] + ")", x.note(4, 3, bytes[i]), i + 1);
            check.note(x, i, 4, 3, bytes[i]);
        }
        for (int b : new int[] {-1, -128, -255, -256, 256, 257, 511, 512, 65536, MIN, MIN + 1, MAX}) {
            check.argument("note(4, 3, " + b + ")", () -> x.note(4, 3, b));
        }
        check.due("notes", x.told(3), bytes.length);
    }

    private static void promise4TwentyNotes() {
        check.promise(4, "how many there are. UnsupportedOperation: there are 20");
        Counted x = new Counted(30, 2);
        for (int i = 0; i < 20; i++) {
            check.due("note", x.note(i, 1, i), i + 1);
            check.due("notes", x.told(3), i + 1);
        }
        check.noRoom("note 21", () -> x.note(20, 1, 20));
        check.noRoom("note 21 where one is", () -> x.note(0, 1, 20));
        x.swap();
        Made.fill(x, 0, 19);
        check.due("the other one has its own room", x.note(0, 0, 0), 20);
        check.noRoom("and no more", () -> x.note(0, 0, 0));
        x.crop(1, 0, 29, 2);
        check.due("two notes were cropped", x.told(3), 18);
        check.due("there is room again", x.note(0, 0, 0), 19);
        check.due("for two", x.note(0, 0, 0), 20);
        check.noRoom("and no more", () -> x.note(0, 0, 0));
        x.clear();
        check.due("after clear()", x.note(0, 0, 0), 1);
    }

    private static void promise4NotesInTheirOrder() {
        check.promise(4, "A NOTE, up to 20, likewise in their order, is a byte at a sample");
        Counted x = new Counted(2, 1);
        x.tile(0, 0, 1, 1);
        for (int i = 0; i < 20; i++) {
            check.due("many at one sample, on a tile or not", x.note(i % 2, 0, 12 * i), i + 1);
        }
        for (int i = 0; i < 20; i++) {
            check.note(x, i, i % 2, 0, 12 * i);
        }
        check.told(x, 2, 1, 1, 20, 0, 2, 1, 0, 0);
    }

    private static void promise4FirstException() {
        check.promise(4, "Of several that a call names, the first one");
        Counted x = new Counted(30, 2);
        Made.fill(x, 0, 20);
        for (int b : new int[] {-1, 256, MIN, MAX}) {
            check.indexOut("no sample, no byte, no room", () -> x.note(30, 0, b));
            check.argument("no byte, no room", () -> x.note(0, 0, b));
        }
        check.indexOut("no sample, no room", () -> x.note(0, 2, 0));
        check.noRoom("no room alone", () -> x.note(0, 1, 0));
    }

    private static void promise4ChangesNothing() {
        check.promise(4, "A call that throws changes nothing");
        Everything.unchanged(check, Made::rich, "note(9, 0, 1)", x -> x.note(9, 0, 1), Check.INDEX);
        Everything.unchanged(check, Made::rich, "note(0, -1, 1)", x -> x.note(0, -1, 1), Check.INDEX);
        Everything.unchanged(check, Made::rich, "note(0, 0, 256)", x -> x.note(0, 0, 256), Check.ARGUMENT);
        Everything.unchanged(check, Made::rich, "note(0, 0, -1)", x -> x.note(0, 0, -1), Check.ARGUMENT);
        Everything.unchanged(check, Made::full, "note(49, 1, 1)", x -> x.note(49, 1, 1), Check.NO_ROOM);
    }
}
