/** Every promise of the document by hand: ordinary inputs, named edges, wrong inputs. */
public final class PromisesTest {
    private static final int MIN = Integer.MIN_VALUE;
    private static final int MAX = Integer.MAX_VALUE;
    private static final Check check = new Check();

    public static void main(String[] args) {
        promise1NewObject();
        promise2Tile();
        promise2TileOrderOfExceptions();
        promise3ByteOf();
        promise4Note();
        promise5Crop();
        promise5CropThenMore();
        promise5CropRefused();
        promise5CropWrong();
        promise6Near();
        promise6NearForgotten();
        promise6NearKept();
        promise7Turn();
        promise7TurnWayOfAll();
        promise8Swap();
        promise9JoinSides();
        promise9JoinAfterwards();
        promise9JoinWrong();
        promise9JoinRoom();
        fullPicture();
        promise10At();
        promise11ByteAt();
        promise12Shown();
        promise13NoteAt();
        promise14Write();
        promise15StreamAt();
        promise16Pointer();
        promise17Told();
        promise18Clear();
        check.end();
    }

    private static void promise1NewObject() {
        int[][] asked = {{1, 1, 1, 1}, {200, 200, 200, 200}, {201, 0, 200, 1}, {0, 201, 1, 200},
            {MAX, MIN, 200, 1}, {MIN, MAX, 1, 200}, {7, 9, 7, 9}};
        for (int[] a : asked) {
            Counted x = new Counted(a[0], a[1]);
            check.told(x, a[2], a[3], 0, 0, 0, a[2], a[3], 0, 0);
        }
        check.due("NONE", LossFreeTools.NONE, -1);
    }

    private static void promise2Tile() {
        Counted x = new Counted(70, 66);
        check.due("tile in the corner", x.tile(0, 0, 2, 3), 0);
        check.due("tile beside it", x.tile(2, 0, 1, 1), 1);
        check.due("tile at the far corner", x.tile(69, 65, 1, 1), 2);
        check.due("tile of 64 times 60", x.tile(4, 1, 64, 60), 3);
        check.at(x, 0, 0, 0, 2, 3, 0, 0, 2, 3);
        check.at(x, 3, 4, 1, 64, 60, 0, 0, 64, 60);
        check.state("tile(1, 2, 1, 1)", () -> x.tile(1, 2, 1, 1));
        check.state("tile(0, 0, 70..)", () -> x.tile(0, 0, 64, 64));
        check.state("tile inside another", () -> x.tile(30, 30, 2, 2));
        check.state("tile(67, 60, 1, 1)", () -> x.tile(67, 60, 1, 1));
        check.due("tile(68, 60, 1, 1)", x.tile(68, 60, 1, 1), 4);
        check.due("tile(67, 61, 1, 1)", x.tile(67, 61, 1, 1), 5);
        int[][] wrong = {{0, 5, 0, 1}, {0, 5, 1, 0}, {0, 5, -1, 1}, {0, 5, 1, MIN}, {0, 5, 65, 1},
            {0, 5, 1, 65}, {-1, 5, 1, 1}, {0, -1, 1, 1}, {70, 5, 1, 1}, {69, 5, 2, 1}, {0, 66, 1, 1},
            {0, 65, 1, 2}, {MAX, 5, 64, 1}, {0, MAX, 1, 64}, {MIN, MIN, 1, 1}, {0, 0, MAX, MAX}};
        for (int[] w : wrong) {
            check.argument("tile wrong", () -> x.tile(w[0], w[1], w[2], w[3]));
        }
        check.due("tiles", x.told(2), 6);
    }

    private static void promise2TileOrderOfExceptions() {
        Counted x = new Counted(42, 1);
        for (int i = 0; i < 40; i++) {
            check.due("tile " + i, x.tile(i, 0, 1, 1), i);
        }
        check.noRoom("tile 40", () -> x.tile(41, 0, 1, 1));
        check.state("tile 40 over another", () -> x.tile(39, 0, 2, 1));
        check.argument("tile 40 outside", () -> x.tile(39, 0, 4, 1));
        check.due("tiles", x.told(2), 40);
    }

    private static void promise3ByteOf() {
        Counted x = new Counted(4, 4);
        check.indexOut("byteOf without tiles", () -> x.byteOf(0, 256));
        x.tile(0, 0, 1, 1);
        x.tile(1, 0, 1, 1);
        for (int i = 1; i <= 12; i++) {
            check.due("byteOf", x.byteOf(0, i == 1 ? 0 : 255 - i), i);
        }
        check.noRoom("byteOf 13", () -> x.byteOf(0, 0));
        check.argument("byteOf 13 of no byte", () -> x.byteOf(0, 256));
        check.argument("byteOf(1, -1)", () -> x.byteOf(1, -1));
        check.argument("byteOf(1, MAX)", () -> x.byteOf(1, MAX));
        check.indexOut("byteOf(-1, ..)", () -> x.byteOf(-1, -1));
        check.indexOut("byteOf(2, ..)", () -> x.byteOf(2, 0));
        check.due("byteOf(1, 255)", x.byteOf(1, 255), 1);
        check.due("bytes of 0", x.at(0, 5), 12);
        check.due("byteAt(0, 11)", x.byteAt(0, 11), 243);
    }

    private static void promise4Note() {
        Counted x = new Counted(3, 2);
        check.due("note(0, 0)", x.note(0, 0, 0), 1);
        check.due("note(2, 1)", x.note(2, 1, 255), 2);
        check.due("note there again", x.note(2, 1, 7), 3);
        int[][] outside = {{3, 0}, {0, 2}, {-1, 0}, {0, -1}, {MAX, 0}, {0, MIN}};
        for (int[] o : outside) {
            check.indexOut("note outside", () -> x.note(o[0], o[1], 256));
        }
        check.argument("note of 256", () -> x.note(0, 0, 256));
        check.argument("note of -1", () -> x.note(0, 0, -1));
        for (int i = 4; i <= 20; i++) {
            check.due("note", x.note(1, 1, i), i);
        }
        check.noRoom("note 21", () -> x.note(1, 1, 1));
        check.argument("note 21 of no byte", () -> x.note(1, 1, 256));
        check.indexOut("note 21 outside", () -> x.note(3, 1, 256));
        check.due("notes", x.told(3), 20);
    }

    private static Counted croppable() {
        Counted x = new Counted(10, 8);
        x.tile(0, 0, 3, 2);
        x.tile(6, 4, 2, 2);
        x.tile(3, 2, 3, 2);
        x.tile(3, 4, 1, 1);
        x.byteOf(0, 10);
        x.byteOf(1, 11);
        x.byteOf(2, 12);
        x.note(0, 0, 1);
        x.note(7, 5, 2);
        x.note(8, 5, 3);
        x.note(3, 2, 4);
        x.note(2, 2, 5);
        x.note(7, 6, 6);
        return x;
    }

    private static void promise5Crop() {
        Counted x = croppable();
        x.write();
        check.due("crop", x.crop(3, 2, 5, 4), 3);
        check.told(x, 5, 4, 3, 2, x.told(4), 10, 8, 0, 0);
        check.at(x, 0, 3, 2, 2, 2, 0, 1, 2, 2);
        check.at(x, 1, 0, 0, 3, 2, 0, 1, 3, 2);
        check.at(x, 2, 0, 2, 1, 1, 0, 0, 1, 1);
        check.due("byteAt(0, 0)", x.byteAt(0, 0), 11);
        check.due("byteAt(1, 0)", x.byteAt(1, 0), 12);
        check.note(x, 0, 4, 3, 2);
        check.note(x, 1, 0, 0, 4);
        check.due("crop to all", x.crop(0, 0, 5, 4), 3);
        check.due("a new tile is shown as it is", x.tile(4, 0, 1, 1), 3);
        check.due("bytes of the new tile", x.at(3, 5), 0);
        check.due("crop to the new tile", x.crop(3, 0, 2, 2), 1);
        check.due("crop to no tile", x.crop(0, 0, 1, 2), 0);
        check.told(x, 1, 2, 0, 0, x.told(4), 10, 8, 0, 0);
    }

    private static void promise5CropThenMore() {
        Counted x = croppable();
        x.crop(3, 2, 5, 4);
        check.due("note after a crop", x.note(1, 1, 90), 3);
        for (int i = 4; i <= 20; i++) {
            x.note(2, 3, i);
        }
        check.note(x, 0, 4, 3, 2);
        check.note(x, 1, 0, 0, 4);
        check.note(x, 2, 1, 1, 90);
        for (int i = 4; i <= 20; i++) {
            check.note(x, i - 1, 2, 3, i);
        }
        check.due("tile after a crop", x.tile(4, 0, 1, 1), 3);
        check.due("byteOf of it", x.byteOf(3, 33), 1);
        check.due("byteAt(0, 0)", x.byteAt(0, 0), 11);
        check.due("byteAt(1, 0)", x.byteAt(1, 0), 12);
        check.due("byteAt(3, 0)", x.byteAt(3, 0), 33);
    }

    private static void promise5CropRefused() {
        int[][] cutting = {{1, 0, 9, 8}, {0, 1, 10, 7}, {0, 0, 7, 8}, {0, 0, 10, 5}, {8, 0, 2, 1},
            {0, 6, 5, 2}, {9, 7, 1, 1}};
        boolean[] refused = {true, true, true, true, true, true, false};
        for (int i = 0; i < cutting.length; i++) {
            Counted x = croppable();
            int[] c = cutting[i];
            check.due("crop " + i, x.crop(c[0], c[1], c[2], c[3]), refused[i] ? -1 : 0);
            if (refused[i]) {
                check.told(x, 10, 8, 4, 6, 0, 10, 8, 0, 0);
                check.at(x, 3, 3, 4, 1, 1, 0, 0, 1, 1);
                check.note(x, 5, 7, 6, 6);
            }
        }
    }

    private static void promise5CropWrong() {
        Counted x = croppable();
        int[][] wrong = {{0, 0, 0, 1}, {0, 0, 1, 0}, {0, 0, -1, 1}, {-1, 0, 2, 1}, {0, -1, 1, 2},
            {0, 0, 11, 1}, {0, 0, 1, 9}, {10, 0, 1, 1}, {0, 8, 1, 1}, {MAX, 0, MAX, 1}, {0, MAX, 1, MAX},
            {MIN, MIN, MIN, MIN}, {5, 5, MAX, MAX}, {1, 1, MIN, 1}};
        for (int[] w : wrong) {
            check.argument("crop wrong", () -> x.crop(w[0], w[1], w[2], w[3]));
        }
        check.told(x, 10, 8, 4, 6, 0, 10, 8, 0, 0);
    }

    private static void promise6Near() {
        Counted x = new Counted(12, 12);
        check.state("near of a new object", () -> x.near(0));
        x.tile(2, 3, 4, 5);
        x.tile(6, 8, 3, 1);
        check.due("crop", x.crop(4, 4, 3, 3), -1);
        check.near(x, 2, 3, 6, 8);
        check.due("crop", x.crop(3, 7, 5, 1), -1);
        check.near(x, 2, 8, 9, 8);
        check.due("crop", x.crop(0, 0, 12, 5), -1);
        check.near(x, 0, 0, 12, 3);
        check.due("crop", x.crop(5, 11, 7, 1), -1);
        check.near(x, 6, 11, 12, 12);
        x.tile(9, 9, 3, 3);
        check.due("crop", x.crop(9, 9, 2, 2), -1);
        check.near(x, 9, 9, 12, 12);
        check.due("crop", x.crop(11, 11, 1, 1), -1);
        check.near(x, 12, 12, 12, 12);
        x.turn(0);
        for (int side : new int[] {-1, 4, MIN, MAX}) {
            check.indexOut("near of no side", () -> x.near(side));
        }
        x.crop(0, 0, 1, 1);
        check.indexOut("near of no side comes first", () -> x.near(4));
        check.state("near of a crop that was done", () -> x.near(0));
    }

    private static Counted refusedOne() {
        Counted x = new Counted(6, 6);
        x.tile(0, 0, 2, 2);
        x.crop(1, 0, 5, 6);
        return x;
    }

    private static void promise6NearForgotten() {
        for (int change = 0; change < 7; change++) {
            Counted x = refusedOne();
            check.due("near", x.near(0), 0);
            switch (change) {
                case 0 -> x.tile(4, 4, 1, 1);
                case 1 -> x.turn(0);
                case 2 -> x.join(0);
                case 3 -> x.swap();
                case 4 -> x.clear();
                case 5 -> x.crop(0, 0, 6, 6);
                default -> check.argument("crop wrong", () -> x.crop(0, 0, 7, 7));
            }
            check.state("near after change " + change, () -> x.near(0));
        }
    }

    private static void promise6NearKept() {
        Counted x = refusedOne();
        check.argument("tile wrong", () -> x.tile(0, 0, 0, 0));
        check.state("tile over another", () -> x.tile(1, 1, 1, 1));
        check.argument("turn wrong", () -> x.turn(8));
        check.indexOut("join wrong", () -> x.join(4));
        check.due("byteOf", x.byteOf(0, 1), 1);
        check.due("note", x.note(0, 0, 1), 1);
        x.write();
        x.shown(0, 0);
        check.near(x, 0, 0, 6, 6);
    }

    /** Where a sample comes to, and what size there is then, straight from the terms. */
    private static int[] placed(int way, int x, int y, int w, int h) {
        int[] p = {x, y, w, h};
        if (way >= 4) {
            p[0] = w - 1 - x;
        }
        for (int i = 0; i < way % 4; i++) {
            p = new int[] {p[3] - 1 - p[1], p[0], p[3], p[2]};
        }
        return p;
    }

    private static void promise7Turn() {
        for (int way = 0; way < 8; way++) {
            Counted x = new Counted(7, 5);
            x.tile(1, 2, 3, 2);
            x.note(5, 1, 8);
            check.due("turn", x.turn(way), way);
            int[] p = placed(way, 5, 1, 7, 5);
            check.told(x, p[2], p[3], 1, 1, 0, 7, 5, 0, 0);
            check.note(x, 0, p[0], p[1], 8);
            check.due("way", x.at(0, 4), way);
            check.due("own width", x.at(0, 6), 3);
            check.due("own height", x.at(0, 7), 2);
            for (int ownX = 0; ownX < 3; ownX++) {
                for (int ownY = 0; ownY < 2; ownY++) {
                    int[] s = placed(way, 1 + ownX, 2 + ownY, 7, 5);
                    check.due("shown by way " + way, x.shown(s[0], s[1]), 64 * ownY + ownX);
                }
            }
        }
        Counted x = new Counted(7, 5);
        for (int way : new int[] {-1, 8, MIN, MAX}) {
            check.argument("turn wrong", () -> x.turn(way));
        }
        check.due("turn after wrong ones", x.turn(1), 1);
    }

    private static void promise7TurnWayOfAll() {
        for (int first = 0; first < 8; first++) {
            for (int second = 0; second < 8; second++) {
                Counted x = new Counted(3, 2);
                x.tile(0, 0, 3, 2);
                x.turn(first);
                x.crop(0, 0, x.told(0), x.told(1));
                int way = x.turn(second);
                check.due("way of the tile", x.at(0, 4), way);
                int[] p = placed(first, 1, 0, 3, 2);
                p = placed(second, p[0], p[1], p[2], p[3]);
                int[] q = placed(way, 1, 0, 3, 2);
                check.due(first + " and " + second + ": x", q[0], p[0]);
                check.due(first + " and " + second + ": y", q[1], p[1]);
                check.due(first + " and " + second + ": shown", x.shown(p[0], p[1]), 1);
            }
        }
        Counted x = new Counted(3, 3);
        x.turn(1);
        x.tile(0, 0, 1, 2);
        check.due("a tile made later", x.at(0, 4), 0);
        check.due("turn", x.turn(1), 2);
        check.due("its way", x.at(0, 4), 1);
        x.swap();
        check.due("turn of the other", x.turn(4), 4);
        x.swap();
        check.due("turn since the swap", x.turn(1), 1);
        x.join(2);
        check.due("turn since the join", x.turn(3), 3);
        check.state("join refused", () -> x.join(2));
        check.due("turn goes on", x.turn(3), 2);
    }

    private static void promise8Swap() {
        Counted x = new Counted(5, 4);
        x.tile(0, 0, 2, 1);
        x.tile(2, 0, 2, 1);
        x.byteOf(1, 99);
        x.note(4, 3, 7);
        x.turn(1);
        check.due("swap", x.swap(), 0);
        check.told(x, 5, 4, 0, 0, 0, 4, 5, 2, 1);
        x.tile(0, 0, 1, 1);
        check.due("swap back", x.swap(), 2);
        check.told(x, 4, 5, 2, 1, 0, 5, 4, 1, 0);
        check.due("byteAt(1, 0)", x.byteAt(1, 0), 99);
        check.note(x, 0, 0, 4, 7);
        check.due("way since then", x.turn(0), 0);
        check.due("the tile's own", x.at(1, 4), 1);
    }

    private static Counted joinable() {
        Counted x = new Counted(6, 4);
        x.tile(1, 2, 2, 1);
        x.byteOf(0, 50);
        x.note(5, 3, 60);
        x.swap();
        x.tile(0, 0, 1, 3);
        x.tile(2, 1, 3, 1);
        x.byteOf(1, 51);
        x.note(3, 3, 61);
        return x;
    }

    private static void promise9JoinSides() {
        int[][] sizes = {{12, 4}, {6, 8}, {12, 4}, {6, 8}};
        int[][] ours = {{6, 0}, {0, 4}, {0, 0}, {0, 0}};
        int[][] theirs = {{0, 0}, {0, 0}, {6, 0}, {0, 4}};
        for (int side = 0; side < 4; side++) {
            Counted x = joinable();
            check.due("join", x.join(side), 3);
            check.told(x, sizes[side][0], sizes[side][1], 3, 2, 0, 6, 4, 0, 0);
            int ox = ours[side][0];
            int oy = ours[side][1];
            int tx = theirs[side][0];
            int ty = theirs[side][1];
            check.at(x, 0, ox, oy, 1, 3, 0, 0, 1, 3);
            check.at(x, 1, ox + 2, oy + 1, 3, 1, 0, 1, 3, 1);
            check.at(x, 2, tx + 1, ty + 2, 2, 1, 0, 1, 2, 1);
            check.due("byteAt(1, 0)", x.byteAt(1, 0), 51);
            check.due("byteAt(2, 0)", x.byteAt(2, 0), 50);
            check.note(x, 0, ox + 3, oy + 3, 61);
            check.note(x, 1, tx + 5, ty + 3, 60);
        }
    }

    private static void promise9JoinAfterwards() {
        Counted x = joinable();
        x.turn(6);
        check.due("join", x.join(2), 3);
        check.due("way since then", x.turn(0), 0);
        check.at(x, 0, 0, 1, 1, 3, 6, 0, 1, 3);
        x.swap();
        check.due("a tile of the emptied one", x.tile(1, 2, 2, 1), 0);
        check.at(x, 0, 1, 2, 2, 1, 0, 0, 2, 1);
        check.due("a note of the emptied one", x.note(0, 0, 1), 1);
        x.byteOf(0, 3);
        x.swap();
        check.due("byteAt(2, 0)", x.byteAt(2, 0), 50);
        check.due("join again", x.join(0), 4);
        check.told(x, 18, 4, 4, 3, 0, 6, 4, 0, 0);
        check.note(x, 0, 6 + 3, 0, 61);
        check.note(x, 1, 12 + 5, 3, 60);
        check.note(x, 2, 0, 0, 1);
        check.at(x, 2, 13, 2, 2, 1, 0, 1, 2, 1);
        check.at(x, 3, 1, 2, 2, 1, 0, 1, 2, 1);
    }

    private static void promise9JoinWrong() {
        Counted x = joinable();
        for (int side : new int[] {-1, 4, MIN, MAX}) {
            check.indexOut("join of no side", () -> x.join(side));
        }
        x.crop(0, 0, 5, 4);
        check.state("join above, not as wide", () -> x.join(1));
        check.state("join below, not as wide", () -> x.join(3));
        check.told(x, 5, 4, 2, 1, 0, 6, 4, 1, 1);
        check.due("join to the left, as high", x.join(0), 3);
        check.told(x, 11, 4, 3, 2, 0, 6, 4, 0, 0);
        Counted y = joinable();
        y.crop(0, 0, 6, 3);
        check.state("join left, not as high", () -> y.join(0));
        check.state("join right, not as high", () -> y.join(2));
        check.due("join below, as wide", y.join(3), 3);
        check.told(y, 6, 7, 3, 1, 0, 6, 4, 0, 0);
    }

    private static void promise9JoinRoom() {
        Counted x = new Counted(200, 200);
        check.due("join to 400 wide", x.join(2), 0);
        check.noRoom("join to 600 wide", () -> x.join(0));
        check.state("not alike comes first", () -> x.join(1));
        x.clear();
        check.due("join to 400 high", x.join(1), 0);
        check.noRoom("join to 600 high", () -> x.join(3));
        x.clear();
        fill(x, 20, 10);
        x.swap();
        fill(x, 20, 10);
        check.due("join to 40 tiles and 20 notes", x.join(0), 40);
        check.due("notes", x.told(3), 20);
        x.clear();
        fill(x, 20, 0);
        x.swap();
        fill(x, 21, 0);
        check.noRoom("join to 41 tiles", () -> x.join(0));
        check.told(x, 200, 200, 21, 0, 0, 200, 200, 20, 0);
        x.clear();
        fill(x, 1, 10);
        x.swap();
        fill(x, 1, 11);
        check.noRoom("join to 21 notes", () -> x.join(0));
        check.told(x, 200, 200, 1, 11, 0, 200, 200, 1, 10);
    }

    private static void fill(Counted x, int tiles, int notes) {
        for (int i = 0; i < tiles; i++) {
            x.tile(i, 0, 1, 1);
        }
        for (int i = 0; i < notes; i++) {
            x.note(i, 0, i);
        }
    }

    /** Every call on a picture without room, where a count too far would leave the rows. */
    private static void fullPicture() {
        Counted x = new Counted(50, 2);
        fill(x, 40, 20);
        check.due("shown of no tile", x.shown(45, 1), -1);
        check.noRoom("tile", () -> x.tile(45, 0, 1, 1));
        check.noRoom("note", () -> x.note(45, 0, 1));
        check.due("turn", x.turn(7), 7);
        check.at(x, 39, 0, 39, 1, 1, 7, 0, 1, 1);
        check.note(x, 19, 0, 19, 19);
        check.due("turn back", x.turn(7), 0);
        check.due("write", x.write(), 188 + 40 * 12);
        check.due("pointer(39)", x.pointer(39), 188 + 39 * 12);
        check.due("join of an empty one", x.join(0), 40);
        check.at(x, 39, 89, 0, 1, 1, 0, 0, 1, 1);
        check.due("crop to them", x.crop(50, 0, 40, 1), 40);
        check.told(x, 40, 1, 40, 20, 188 + 40 * 12, 50, 2, 0, 0);
        x.swap();
        x.crop(0, 0, 40, 1);
        check.due("join to a full one", x.join(3), 40);
        check.told(x, 40, 2, 40, 20, 188 + 40 * 12, 40, 1, 0, 0);
        check.at(x, 39, 39, 1, 1, 1, 0, 0, 1, 1);
        check.due("crop to the last", x.crop(39, 1, 1, 1), 1);
    }

    private static void promise10At() {
        Counted x = new Counted(9, 9);
        check.indexOut("at without tiles", () -> x.at(0, 8));
        x.tile(1, 2, 3, 4);
        x.byteOf(0, 5);
        x.turn(1);
        check.at(x, 0, 3, 1, 4, 3, 1, 1, 3, 4);
        for (int what : new int[] {-1, 8, MIN, MAX}) {
            check.due("at of another what", x.at(0, what), -1);
        }
        for (int tile : new int[] {-1, 1, MIN, MAX}) {
            check.indexOut("at of no tile", () -> x.at(tile, 0));
        }
    }

    private static void promise11ByteAt() {
        Counted x = new Counted(9, 9);
        check.indexOut("byteAt without tiles", () -> x.byteAt(0, 0));
        x.tile(0, 0, 1, 1);
        x.tile(1, 0, 1, 1);
        check.indexOut("byteAt without bytes", () -> x.byteAt(0, 0));
        for (int i = 0; i < 12; i++) {
            x.byteOf(1, 200 + i);
        }
        for (int i = 0; i < 12; i++) {
            check.due("byteAt", x.byteAt(1, i), 200 + i);
        }
        for (int i : new int[] {-1, 12, MIN, MAX}) {
            check.indexOut("byteAt of no byte", () -> x.byteAt(1, i));
            check.indexOut("byteAt of no tile", () -> x.byteAt(i, 0));
        }
        x.turn(5);
        check.due("byteAt after a turn", x.byteAt(1, 3), 203);
    }

    private static void promise12Shown() {
        Counted x = new Counted(200, 70);
        x.tile(0, 0, 1, 1);
        x.tile(100, 2, 64, 64);
        check.due("shown of tile 0", x.shown(0, 0), 0);
        check.due("shown of no tile", x.shown(1, 0), -1);
        check.due("shown of the first sample", x.shown(100, 2), 4096);
        check.due("shown of the last sample", x.shown(163, 65), 4096 + 63 * 64 + 63);
        check.due("shown beside it", x.shown(164, 65), -1);
        check.due("shown under it", x.shown(163, 66), -1);
        check.due("shown before it", x.shown(99, 2), -1);
        check.due("shown over it", x.shown(100, 1), -1);
        x.turn(4);
        check.due("shown mirrored", x.shown(199 - 100, 2), 4096);
        check.due("shown mirrored", x.shown(199 - 163, 5), 4096 + 3 * 64 + 63);
        int[][] outside = {{200, 0}, {0, 70}, {-1, 0}, {0, -1}, {MAX, MAX}, {MIN, 0}};
        for (int[] o : outside) {
            check.indexOut("shown outside", () -> x.shown(o[0], o[1]));
        }
    }

    private static void promise13NoteAt() {
        Counted x = new Counted(9, 5);
        check.indexOut("noteAt without notes", () -> x.noteAt(0, 3));
        x.note(8, 4, 255);
        x.note(1, 2, 0);
        check.note(x, 0, 8, 4, 255);
        check.note(x, 1, 1, 2, 0);
        for (int what : new int[] {-1, 3, MIN, MAX}) {
            check.due("noteAt of another what", x.noteAt(0, what), -1);
        }
        for (int k : new int[] {-1, 2, MIN, MAX}) {
            check.indexOut("noteAt of no note", () -> x.noteAt(k, 0));
        }
    }

    private static int sumOf(int[] bytes, int from, int to) {
        long sum = 1;
        for (int i = from; i < to; i++) {
            sum = (sum * 31 + bytes[i]) % 65521;
        }
        return (int) sum;
    }

    private static void promise14Write() {
        Counted x = new Counted(200, 3);
        x.join(2);
        x.tile(9, 0, 1, 1);
        x.tile(300, 1, 64, 2);
        x.tile(5, 1, 2, 1);
        x.byteOf(1, 255);
        x.byteOf(1, 254);
        x.byteOf(0, 9);
        x.note(399, 2, 77);
        x.turn(2);
        int[] due = {76, 70, 144, 1, 3, 0, 3, 45, 0, 19, 0, 33, 0, 1, 0, 0, 0, 0, 77,
            36, 0, 0, 0, 64, 0, 2, 0, 2, 2, 255, 254, 0, 0,
            137, 1, 1, 0, 2, 0, 1, 0, 2, 0, 0, 0,
            134, 1, 2, 0, 1, 0, 1, 0, 2, 1, 9, 0, 0};
        int[][] parts = {{19, 31}, {33, 43}, {45, 56}};
        for (int[] p : parts) {
            int sum = sumOf(due, p[0], p[1]);
            due[p[1]] = sum % 256;
            due[p[1] + 1] = sum / 256;
        }
        check.due("write", x.write(), due.length);
        for (int i = 0; i < due.length; i++) {
            check.due("streamAt(" + i + ")", x.streamAt(i), due[i]);
        }
        promise14WriteFull();
    }

    private static void promise14WriteFull() {
        Counted x = new Counted(200, 1);
        fill(x, 40, 20);
        for (int i = 0; i < 240; i++) {
            x.byteOf(i / 12, 255);
        }
        x.swap();
        x.swap();
        for (int i = 240; i < 480 - 40; i++) {
            x.byteOf(i / 12, 255);
        }
        check.due("write", x.write(), 188 + 40 * 12 + 440);
    }

    private static void promise15StreamAt() {
        Counted x = new Counted(6, 4);
        check.indexOut("streamAt before any", () -> x.streamAt(0));
        check.due("write of an empty one", x.write(), 8);
        int[] due = {76, 70, 6, 0, 4, 0, 0, 0};
        for (int i = 0; i < 8; i++) {
            check.due("streamAt", x.streamAt(i), due[i]);
        }
        for (int i : new int[] {-1, 8, MIN, MAX}) {
            check.indexOut("streamAt of no byte", () -> x.streamAt(i));
        }
        x.tile(0, 0, 1, 1);
        x.turn(1);
        x.swap();
        check.due("the stream stays as written", x.streamAt(2), 6);
        check.indexOut("and as long", () -> x.streamAt(8));
        x.swap();
        check.due("a longer one", x.write(), 22);
        check.due("streamAt(2)", x.streamAt(2), 4);
        x.swap();
        check.due("a shorter one", x.write(), 8);
        check.indexOut("streamAt behind it", () -> x.streamAt(8));
    }

    private static void promise16Pointer() {
        Counted x = new Counted(9, 9);
        check.indexOut("pointer without tiles", () -> x.pointer(0));
        x.tile(4, 4, 1, 1);
        check.due("pointer of one", x.pointer(0), 10);
        x.tile(2, 4, 1, 1);
        x.tile(8, 1, 1, 1);
        x.byteOf(1, 1);
        x.byteOf(2, 1);
        x.byteOf(2, 1);
        check.due("pointer(0)", x.pointer(0), 14 + 14 + 13);
        check.due("pointer(1)", x.pointer(1), 14 + 14);
        check.due("pointer(2)", x.pointer(2), 14);
        x.write();
        x.note(0, 0, 1);
        check.due("pointer as it is now", x.pointer(2), 19);
        x.turn(2);
        check.due("pointer(0) turned", x.pointer(0), 19);
        check.due("pointer(1) turned", x.pointer(1), 19 + 12);
        check.due("pointer(2) turned", x.pointer(2), 19 + 12 + 13);
        check.due("nothing is written by it", x.told(4), 14 + 12 + 13 + 14);
        for (int tile : new int[] {-1, 3, MIN, MAX}) {
            check.indexOut("pointer of no tile", () -> x.pointer(tile));
        }
    }

    private static void promise17Told() {
        Counted x = new Counted(5, 3);
        x.tile(0, 0, 1, 1);
        x.tile(1, 0, 1, 1);
        x.note(0, 0, 0);
        x.turn(1);
        x.write();
        x.swap();
        x.tile(0, 0, 1, 1);
        x.note(0, 0, 0);
        x.note(0, 0, 0);
        x.note(0, 0, 0);
        check.told(x, 5, 3, 1, 3, 8 + 4 + 5 + 24, 3, 5, 2, 1);
        for (int what : new int[] {-1, 9, MIN, MAX}) {
            check.due("told of another what", x.told(what), -1);
        }
    }

    private static void promise18Clear() {
        Counted x = joinable();
        x.turn(1);
        x.write();
        x.swap();
        x.turn(3);
        x.crop(0, 0, 1, 1);
        x.clear();
        check.told(x, 6, 4, 0, 0, 0, 6, 4, 0, 0);
        check.indexOut("streamAt after clear", () -> x.streamAt(0));
        check.indexOut("at after clear", () -> x.at(0, 0));
        check.indexOut("noteAt after clear", () -> x.noteAt(0, 0));
        check.due("shown after clear", x.shown(0, 0), -1);
        check.due("tile after clear", x.tile(0, 0, 1, 1), 0);
        check.at(x, 0, 0, 0, 1, 1, 0, 0, 1, 1);
        x.turn(5);
        x.clear();
        check.due("turn after clear", x.turn(1), 1);
        check.told(x, 4, 6, 0, 0, 0, 6, 4, 0, 0);
    }
}
