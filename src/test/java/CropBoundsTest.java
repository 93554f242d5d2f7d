import java.util.Map;
import java.util.function.Supplier;
import java.util.function.ToIntFunction;

/** Promises 5 and 6 at their bounds: crop, and the borders that would have fitted. */
public final class CropBoundsTest {
    private static final int MIN = Integer.MIN_VALUE;
    private static final int MAX = Integer.MAX_VALUE;
    private static final Check check = new Check();

    public static void main(String[] args) {
        promise5EveryRectangle();
        promise5WholePicture();
        promise5OneSample();
        promise5GreatestPicture();
        promise5NotesAtTheBorders();
        promise5KeepTheirOrder();
        promise5NoneAndAllOfForty();
        promise5MoreOfThemAfterwards();
        promise5BytesAndWaysStay();
        promise5OutsideThePicture();
        promise5NoSample();
        promise5SumsThatWrap();
        promise5ArgumentBeforeRefusal();
        promise5ChangesNothing();
        promise5OtherAndStreamAndWayStay();
        promise6EveryRefusedRectangle();
        promise6OfTwoTheLesser();
        promise6ThatItself();
        promise6OnlyThePicturesOwnBordersFit();
        promise6NoSuchSide();
        promise6NotRefused();
        promise6TheLatestOfSeveral();
        promise6Changed();
        promise6NotChanged();
        promise6NotChangedByWhatThrows();
        promise6AskingChangesNothing();
        check.end();
    }

    private static Counted oneTile() {
        Counted x = new Counted(10, 8);
        x.tile(3, 2, 4, 3);
        return x;
    }

    private static boolean cutsOneTile(boolean upright, int border) {
        return upright ? border > 3 && border < 7 : border > 2 && border < 5;
    }

    /** Every rectangle of a picture with one tile, those too whose border cuts it far from them. */
    private static void promise5EveryRectangle() {
        check.promise(5, "NONE, and it is REFUSED, if one of its four borders does not fit");
        for (int y = 0; y < 8; y++) {
            for (int h = 1; y + h <= 8; h++) {
                for (int x = 0; x < 10; x++) {
                    for (int w = 1; x + w <= 10; w++) {
                        cropOneTile(x, y, w, h);
                    }
                }
            }
        }
    }

    private static void cropOneTile(int x, int y, int w, int h) {
        String call = "crop(" + x + ", " + y + ", " + w + ", " + h + ")";
        Counted t = oneTile();
        boolean refused = cutsOneTile(true, x) || cutsOneTile(true, x + w)
                || cutsOneTile(false, y) || cutsOneTile(false, y + h);
        boolean kept = x <= 3 && x + w >= 7 && y <= 2 && y + h >= 5;
        check.due(call, t.crop(x, y, w, h), refused ? -1 : kept ? 1 : 0);
        check.due(call + ", width", t.told(0), refused ? 10 : w);
        check.due(call + ", height", t.told(1), refused ? 8 : h);
        check.due(call + ", tiles", t.told(2), refused || kept ? 1 : 0);
        if (refused) {
            check.at(t, 0, 3, 2, 4, 3, 0, 0, 4, 3);
        } else if (kept) {
            check.at(t, 0, 3 - x, 2 - y, 4, 3, 0, 0, 4, 3);
        }
    }

    private static void promise5WholePicture() {
        check.promise(5, "CROPPED to the rectangle from (x, y) on, w times h: what is outside goes");
        Everything.unchanged(check, Made::richAndQuiet, "crop to all",
                x -> x.crop(0, 0, x.told(0), x.told(1)), "3");
        Counted least = new Counted(1, 1);
        check.due("crop of the least picture", least.crop(0, 0, 1, 1), 0);
        least.tile(0, 0, 1, 1);
        check.due("with a tile", least.crop(0, 0, 1, 1), 1);
        check.told(least, 1, 1, 1, 0, 0, 1, 1, 0, 0);
    }

    private static void promise5OneSample() {
        check.promise(5, "w times h: how many tiles there are");
        int[][] corners = {{0, 0}, {4, 0}, {0, 3}, {4, 3}, {2, 2}};
        for (int[] c : corners) {
            Counted x = new Counted(5, 4);
            x.note(c[0], c[1], 7);
            check.due("crop to no tile", x.crop(c[0], c[1], 1, 1), 0);
            check.told(x, 1, 1, 0, 1, 0, 5, 4, 0, 0);
            check.note(x, 0, 0, 0, 7);
            Counted y = new Counted(5, 4);
            y.tile(c[0], c[1], 1, 1);
            check.due("crop to a tile", y.crop(c[0], c[1], 1, 1), 1);
            check.told(y, 1, 1, 1, 0, 0, 5, 4, 0, 0);
            check.due("shown", y.shown(0, 0), 0);
            check.indexOut("shown beyond", () -> y.shown(1, 0));
            check.indexOut("shown below", () -> y.shown(0, 1));
        }
    }

    private static void promise5GreatestPicture() {
        check.promise(5, "it lies not wholly in the PICTURE");
        for (boolean wide : new boolean[] {true, false}) {
            check.argument("401", () -> cropLong(Made.longest(wide), wide, 0, 401));
            check.argument("400 from 1 on", () -> cropLong(Made.longest(wide), wide, 1, 400));
            check.argument("1 from 400 on", () -> cropLong(Made.longest(wide), wide, 400, 1));
            check.due("400", cropLong(Made.longest(wide), wide, 0, 400), 1);
            check.due("the tile at the end", cropLong(Made.longest(wide), wide, 336, 64), 1);
            check.due("up to the tile", cropLong(Made.longest(wide), wide, 0, 336), 0);
            check.due("one of the tile more", cropLong(Made.longest(wide), wide, 0, 337), -1);
            check.due("one of the tile less", cropLong(Made.longest(wide), wide, 337, 63), -1);
            check.due("its last sample", cropLong(Made.longest(wide), wide, 399, 1), -1);
            check.due("one before the tile", cropLong(Made.longest(wide), wide, 335, 65), 1);
        }
    }

    private static int cropLong(Counted x, boolean wide, int from, int size) {
        return wide ? x.crop(from, 0, size, 3) : x.crop(0, from, 3, size);
    }

    private static void promise5NotesAtTheBorders() {
        check.promise(5, "what is outside goes, the others keep their order");
        Counted x = new Counted(9, 9);
        int[][] notes = {{2, 3}, {1, 3}, {2, 2}, {6, 7}, {7, 7}, {6, 8}, {6, 3}, {2, 7}, {0, 0}, {8, 8}, {4, 5},
            {7, 3}, {2, 8}, {1, 7}, {6, 2}};
        int[][] kept = {{0, 0, 0}, {4, 4, 3}, {4, 0, 6}, {0, 4, 7}, {2, 2, 10}};
        for (int i = 0; i < notes.length; i++) {
            x.note(notes[i][0], notes[i][1], i);
        }
        check.due("crop", x.crop(2, 3, 5, 5), 0);
        check.told(x, 5, 5, 0, kept.length, 0, 9, 9, 0, 0);
        for (int i = 0; i < kept.length; i++) {
            check.note(x, i, kept[i]);
        }
        check.indexOut("no more notes", () -> x.noteAt(5, 0));
    }

    private static void promise5KeepTheirOrder() {
        check.promise(5, "the others keep their order, and are numbered anew");
        Counted x = new Counted(40, 3);
        for (int i = 0; i < 40; i++) {
            x.tile(39 - i, i % 3, 1, 1);
            x.byteOf(i, i);
        }
        check.due("crop", x.crop(10, 1, 20, 2), 14);
        int tile = 0;
        for (int i = 10; i < 30; i++) {
            if (i % 3 != 0) {
                check.at(x, tile, 29 - i, i % 3 - 1, 1, 1, 0, 1, 1, 1);
                check.due("byteAt(" + tile + ", 0)", x.byteAt(tile, 0), i);
                check.due("shown", x.shown(29 - i, i % 3 - 1), 4096 * tile);
                tile++;
            }
        }
        check.indexOut("no more tiles", () -> x.at(14, 0));
    }

    private static void promise5NoneAndAllOfForty() {
        check.promise(5, "how many tiles there are");
        Counted x = new Counted(50, 2);
        Made.fill(x, 40, 20);
        check.due("all of them", x.crop(0, 0, 40, 1), 40);
        check.told(x, 40, 1, 40, 20, 0, 50, 2, 0, 0);
        check.due("all but the first", x.crop(1, 0, 39, 1), 39);
        check.due("all but the last", x.crop(0, 0, 38, 1), 38);
        check.due("the last alone", x.crop(37, 0, 1, 1), 1);
        check.told(x, 1, 1, 1, 0, 0, 50, 2, 0, 0);
        Counted y = new Counted(50, 2);
        Made.fill(y, 40, 20);
        check.due("none of them", y.crop(0, 1, 50, 1), 0);
        check.told(y, 50, 1, 0, 0, 0, 50, 2, 0, 0);
        check.due("a tile more is the first", y.tile(0, 0, 1, 1), 0);
        check.due("a note more is the first", y.note(0, 0, 1), 1);
    }

    /** What is new in the place of what went leaves the others alone. */
    private static void promise5MoreOfThemAfterwards() {
        check.promise(5, "what is outside goes, the others keep their order, and are numbered anew");
        for (int gone = 0; gone <= 20; gone += 4) {
            Counted x = new Counted(60, 2);
            Made.fill(x, 40, 20);
            check.due("crop", x.crop(gone, 0, 60 - gone, 2), 40 - gone);
            for (int i = 0; i < gone; i++) {
                check.due("tile", x.tile(i, 1, 1, 1), 40 - gone + i);
                check.due("byteOf", x.byteOf(40 - gone + i, i), 1);
                check.due("note", x.note(i, 1, 200 + i), 20 - gone + i + 1);
            }
            for (int i = 0; i < 40; i++) {
                int late = i - (40 - gone);
                check.due("x of tile " + i, x.at(i, 0), late < 0 ? i : late);
                check.due("y of tile " + i, x.at(i, 1), late < 0 ? 0 : 1);
                check.due("bytes of tile " + i, x.at(i, 5), late < 0 ? 0 : 1);
            }
            for (int i = 0; i < 20; i++) {
                int late = i - (20 - gone);
                check.note(x, i, late < 0 ? i : late, late < 0 ? 0 : 1, late < 0 ? i + gone : 200 + late);
            }
        }
    }

    private static void promise5BytesAndWaysStay() {
        check.promise(5, "the others keep their order");
        for (int way = 0; way < 8; way++) {
            Counted x = new Counted(8, 8);
            x.tile(0, 0, 1, 1);
            x.tile(3, 2, 3, 2);
            Made.bytes(x, 1, 12);
            x.turn(way);
            int left = x.at(1, 0);
            int upper = x.at(1, 1);
            int wide = x.at(1, 2);
            int high = x.at(1, 3);
            int first = x.shown(left, upper) - 4096;
            check.due("crop to the tile", x.crop(left, upper, wide, high), 1);
            check.at(x, 0, 0, 0, wide, high, way, 12, 3, 2);
            check.due("shown", x.shown(0, 0), first);
            for (int i = 0; i < 12; i++) {
                check.due("byteAt(0, " + i + ")", x.byteAt(0, i), 100 + i);
            }
        }
    }

    private static void promise5OutsideThePicture() {
        check.promise(5, "IllegalArgument: it lies not wholly in the PICTURE");
        Counted x = oneTile();
        int[][] outside = {{-1, 0, 1, 1}, {0, -1, 1, 1}, {-1, 0, 11, 8}, {0, -1, 10, 9}, {0, 0, 11, 8},
            {0, 0, 10, 9}, {1, 0, 10, 8}, {0, 1, 10, 8}, {10, 0, 1, 1}, {0, 8, 1, 1}, {9, 7, 2, 1}, {9, 7, 1, 2},
            {9, 0, 1, 9}, {0, 9, 1, 1}, {-2, 0, 2, 1}, {0, -2, 1, 2}, {-1, -1, 12, 10}, {9, 8, 1, 1}};
        for (int[] o : outside) {
            check.argument("crop outside", () -> x.crop(o[0], o[1], o[2], o[3]));
        }
        check.told(x, 10, 8, 1, 0, 0, 10, 8, 0, 0);
        check.due("the whole of it", x.crop(0, 0, 10, 8), 1);
        x.turn(1);
        check.argument("as wide as it was before a turn", () -> x.crop(0, 0, 10, 8));
        check.due("as it is now", x.crop(0, 0, 8, 10), 1);
    }

    private static void promise5NoSample() {
        check.promise(5, "or has no sample");
        Counted x = oneTile();
        for (int none : new int[] {0, -1, -2, -10, MIN, MIN + 1}) {
            for (int from : new int[] {0, 1, 7, 8, 10}) {
                check.argument("w = " + none, () -> x.crop(from, 0, none, 8));
                check.argument("h = " + none, () -> x.crop(0, from, 10, none));
                check.argument("both " + none, () -> x.crop(from, from, none, none));
            }
        }
        check.told(x, 10, 8, 1, 0, 0, 10, 8, 0, 0);
    }

    private static void promise5SumsThatWrap() {
        check.promise(5, "IllegalArgument: it lies not wholly in the PICTURE");
        Counted x = oneTile();
        int[] far = {MAX, MAX - 1, MAX - 9, MAX - 10, MIN, MIN + 1, MIN + 10, 1 << 30, -(1 << 30)};
        for (int from : far) {
            for (int size : new int[] {1, 10, MAX, MAX - 1, 1 << 30}) {
                check.argument("x = " + from + ", w = " + size, () -> x.crop(from, 0, size, 1));
                check.argument("y = " + from + ", h = " + size, () -> x.crop(0, from, 1, size));
            }
        }
        for (int size : new int[] {MAX, MAX - 1, MAX - 9, 1 << 30}) {
            for (int from : new int[] {0, 1, 2, 5}) {
                check.argument("x = " + from + ", w = " + size, () -> x.crop(from, 0, size, 1));
                check.argument("y = " + from + ", h = " + size, () -> x.crop(0, from, 1, size));
            }
        }
        Counted y = oneTile();
        for (int from : far) {
            check.argument("MIN wide from " + from + " on", () -> y.crop(from, 0, MIN, 1));
            check.argument("MIN high from " + from + " on", () -> y.crop(0, from, 1, MIN));
            // A sum of zero or of a width that is allowed, made by two numbers that are not.
            check.argument("up to column 8 from " + from + " on", () -> y.crop(from, 0, 8 - from, 1));
            check.argument("up to row 8 from " + from + " on", () -> y.crop(0, from, 1, 8 - from));
        }
        check.told(y, 10, 8, 1, 0, 0, 10, 8, 0, 0);
    }

    private static void promise5ArgumentBeforeRefusal() {
        check.promise(5, "Of several that a call names, the first one");
        Counted x = oneTile();
        check.argument("a border that cuts, and too wide", () -> x.crop(4, 0, 7, 8));
        check.argument("a border that cuts, and no sample", () -> x.crop(4, 3, 0, 1));
        check.argument("a border that cuts, and too low", () -> x.crop(0, 3, 10, 6));
        check.due("a border that cuts alone", x.crop(4, 0, 6, 8), -1);
    }

    private static void promise5ChangesNothing() {
        check.promise(5, "A call that throws, or is refused, changes nothing (but for what crop() tells of near())");
        int[][] wrong = {{0, 0, 0, 1}, {0, 0, 10, 1}, {-1, 0, 1, 1}, {MAX, 0, MAX, 1}, {0, 0, 1, MIN}};
        for (int[] w : wrong) {
            ToIntFunction<Counted> made = x -> x.crop(w[0], w[1], w[2], w[3]);
            Everything.unchangedButNear(check, Made::rich, "crop that throws", made, Check.ARGUMENT);
            Everything.unchanged(check, Made::richAndQuiet, "crop that throws", made, Check.ARGUMENT);
        }
        int[][] refused = {{1, 0, 8, 12}, {0, 1, 9, 11}, {0, 0, 7, 12}, {0, 0, 9, 5}, {8, 11, 1, 1}};
        for (int[] r : refused) {
            ToIntFunction<Counted> made = x -> x.crop(r[0], r[1], r[2], r[3]);
            Everything.unchangedButNear(check, Made::rich, "crop that is refused", made, "-1");
            Everything.unchangedButNear(check, Made::richAndQuiet, "crop that is refused", made, "-1");
        }
        Everything.unchanged(check, Made::full, "the same once more", x -> x.crop(0, 0, 40, 2), "-1");
        Everything.unchangedButNear(check, Made::full, "crop that throws", x -> x.crop(0, 0, 51, 2), Check.ARGUMENT);
    }

    private static void promise5OtherAndStreamAndWayStay() {
        check.promise(5, "CROPPED to the rectangle");
        Supplier<Counted> cropped = () -> {
            Counted x = Made.rich();
            check.due("crop", x.crop(0, 4, 9, 3), 2);
            return x;
        };
        Map<String, String> before = Everything.of(Made::rich);
        Map<String, String> after = Everything.of(cropped);
        for (Map.Entry<String, String> e : before.entrySet()) {
            String call = e.getKey();
            if (call.startsWith("swap()") || call.startsWith("streamAt") || call.startsWith("turn")) {
                check.due("after a crop " + call, String.valueOf(after.get(call)), e.getValue());
            }
        }
        check.told(cropped.get(), 9, 3, 2, 0, 28, 9, 12, 1, 1);
    }

    private static Counted someTiles() {
        Counted x = new Counted(14, 11);
        x.tile(0, 0, 3, 2);
        x.tile(3, 1, 4, 5);
        x.tile(9, 0, 5, 1);
        x.tile(8, 7, 2, 4);
        x.tile(0, 9, 1, 1);
        return x;
    }

    /** Which borders of that picture fit, told apart from the class: no tile on both sides. */
    private static boolean fitsSomeTiles(boolean upright, int c) {
        int[][] ends = upright ? new int[][] {{0, 3}, {3, 7}, {9, 14}, {8, 10}, {0, 1}}
                : new int[][] {{0, 2}, {1, 6}, {0, 1}, {7, 11}, {9, 10}};
        for (int[] e : ends) {
            if (e[0] < c && c < e[1]) {
                return false;
            }
        }
        return true;
    }

    private static int nearestOfSomeTiles(boolean upright, int border) {
        int best = 0;
        for (int c = 1; c <= (upright ? 14 : 11); c++) {
            if (fitsSomeTiles(upright, c) && Math.abs(c - border) < Math.abs(best - border)) {
                best = c;
            }
        }
        return best;
    }

    private static void promise6EveryRefusedRectangle() {
        check.promise(6, "the nearest border that fits to its left (side 0), upper (1), right (2) or lower one (3)");
        for (int x = 0; x < 14; x++) {
            for (int right = x + 1; right <= 14; right++) {
                for (int y = 0; y < 11; y++) {
                    int high = 1 + (x + 3 * y + right) % (11 - y);
                    nearOfSomeTiles(x, y, right, y + high);
                }
            }
        }
        for (int y = 0; y < 11; y++) {
            for (int lower = y + 1; lower <= 11; lower++) {
                nearOfSomeTiles(3, y, 7, lower);
                nearOfSomeTiles(0, y, 14, lower);
            }
        }
    }

    private static void nearOfSomeTiles(int x, int y, int right, int lower) {
        Counted t = someTiles();
        boolean fits = fitsSomeTiles(true, x) && fitsSomeTiles(false, y)
                && fitsSomeTiles(true, right) && fitsSomeTiles(false, lower);
        int answer = t.crop(x, y, right - x, lower - y);
        if (fits) {
            check.due("it fits", String.valueOf(answer >= 0), "true");
            check.state("near(0)", () -> t.near(0));
        } else {
            check.due("it does not fit", answer, -1);
            check.near(t, nearestOfSomeTiles(true, x), nearestOfSomeTiles(false, y),
                    nearestOfSomeTiles(true, right), nearestOfSomeTiles(false, lower));
        }
    }

    private static void promise6OfTwoTheLesser() {
        check.promise(6, "of two such the lesser");
        Counted x = new Counted(20, 20);
        x.tile(4, 6, 8, 6);
        check.due("each border in the middle", x.crop(8, 9, 1, 1), -1);
        check.near(x, 4, 6, 12, 12);
        check.due("right and lower in the middle", x.crop(3, 5, 5, 4), -1);
        check.near(x, 3, 5, 4, 6);
        check.due("one before the middle", x.crop(7, 8, 13, 12), -1);
        check.near(x, 4, 6, 20, 20);
        check.due("one behind the middle", x.crop(9, 10, 11, 10), -1);
        check.near(x, 12, 12, 20, 20);
        check.due("just within", x.crop(5, 7, 6, 4), -1);
        check.near(x, 4, 6, 12, 12);
        Counted y = new Counted(2, 2);
        y.tile(0, 0, 2, 2);
        check.due("of a picture that is one tile", y.crop(1, 1, 1, 1), -1);
        check.near(y, 0, 0, 2, 2);
    }

    private static void promise6ThatItself() {
        check.promise(6, "that itself, if it fits");
        Counted x = oneTile();
        check.due("left", x.crop(4, 2, 6, 3), -1);
        check.near(x, 3, 2, 10, 5);
        check.due("upper", x.crop(3, 3, 4, 5), -1);
        check.near(x, 3, 2, 7, 8);
        check.due("right", x.crop(3, 2, 3, 3), -1);
        check.near(x, 3, 2, 7, 5);
        check.due("lower", x.crop(3, 2, 4, 2), -1);
        check.near(x, 3, 2, 7, 5);
        check.due("0 and the whole", x.crop(0, 0, 10, 3), -1);
        check.near(x, 0, 0, 10, 2);
        check.due("0 and the whole", x.crop(0, 0, 4, 8), -1);
        check.near(x, 0, 0, 3, 8);
        check.due("behind the tile", x.crop(7, 4, 3, 1), -1);
        check.near(x, 7, 5, 10, 5);
    }

    private static void promise6OnlyThePicturesOwnBordersFit() {
        check.promise(6, "an upright line before column c, 0 .. the width, or a level one before row c");
        for (boolean wide : new boolean[] {true, false}) {
            Counted x = wide ? new Counted(200, 2) : new Counted(2, 200);
            x.join(wide ? 0 : 1);
            // Two rows of tiles: where one row has a gap between tiles, the other has a tile.
            for (int from = 0; from < 400; from += 50) {
                tileInRow(x, wide, from, 0, 50);
            }
            tileInRow(x, wide, 0, 1, 25);
            for (int from = 25; from < 375; from += 50) {
                tileInRow(x, wide, from, 1, 50);
            }
            int side = wide ? 0 : 1;
            int[][] nearest = {{1, 0}, {199, 0}, {200, 0}, {201, 400}, {399, 400}, {100, 0}, {300, 400}};
            for (int[] n : nearest) {
                check.due("from " + n[0] + " on", cropRow(x, wide, n[0], 400 - n[0]), -1);
                check.due("the first border", x.near(side), n[1]);
                check.due("the last border", x.near(side + 2), 400);
                check.due("up to " + n[0], cropRow(x, wide, 0, n[0]), -1);
                check.due("the first border", x.near(side), 0);
                check.due("the last border", x.near(side + 2), n[1]);
            }
        }
    }

    private static void tileInRow(Counted x, boolean wide, int from, int row, int size) {
        check.due("tile", String.valueOf(
                (wide ? x.tile(from, row, size, 1) : x.tile(row, from, 1, size)) >= 0), "true");
    }

    private static int cropRow(Counted x, boolean wide, int from, int size) {
        return wide ? x.crop(from, 0, size, 2) : x.crop(0, from, 2, size);
    }

    private static void promise6NoSuchSide() {
        check.promise(6, "IndexOutOfBounds: there is no such side. Of several that a call names, the first one");
        Counted refused = Made.rich();
        Counted quiet = Made.richAndQuiet();
        for (int side : new int[] {-1, 4, 5, -4, 256, MIN, MIN + 3, MAX}) {
            check.indexOut("near of a refused crop", () -> refused.near(side));
            check.indexOut("near of none", () -> quiet.near(side));
            check.indexOut("near of a new object", () -> new Counted(3, 3).near(side));
        }
        check.near(refused, 0, 0, 9, 11);
        for (int side = 0; side < 4; side++) {
            int s = side;
            check.state("near of none", () -> quiet.near(s));
        }
    }

    private static void everySideThrows(String when, Counted x) {
        for (int side = 0; side < 4; side++) {
            int s = side;
            check.state(when + " near(" + s + ")", () -> x.near(s));
        }
    }

    private static void promise6NotRefused() {
        check.promise(6, "IllegalState: the latest one was not REFUSED");
        everySideThrows("without a crop", new Counted(3, 3));
        Counted done = Made.rich();
        check.due("crop to all", done.crop(0, 0, 9, 12), 3);
        everySideThrows("after a crop that was done", done);
        for (int[] w : new int[][] {{0, 0, 0, 1}, {0, 0, 10, 12}, {MAX, 0, 1, 1}}) {
            Counted wrong = Made.rich();
            check.argument("crop", () -> wrong.crop(w[0], w[1], w[2], w[3]));
            everySideThrows("after a crop that threw", wrong);
            check.due("crop again", wrong.crop(1, 1, 7, 10), -1);
            check.near(wrong, 0, 0, 9, 11);
        }
        Counted first = oneTile();
        check.argument("crop", () -> first.crop(0, 0, 0, 0));
        everySideThrows("after a first crop that threw", first);
    }

    private static void promise6TheLatestOfSeveral() {
        check.promise(6, "Of the latest crop(), that was REFUSED");
        Counted x = oneTile();
        check.due("a crop", x.crop(4, 0, 6, 8), -1);
        check.due("another one", x.crop(6, 4, 1, 1), -1);
        check.near(x, 7, 5, 7, 5);
        check.due("a third one", x.crop(0, 0, 5, 3), -1);
        check.near(x, 0, 0, 3, 2);
        check.due("a crop that is done", x.crop(1, 1, 8, 6), 1);
        everySideThrows("after it", x);
        check.due("refused in what is left", x.crop(3, 0, 5, 6), -1);
        check.near(x, 2, 0, 8, 6);
    }

    private static void promise6Changed() {
        check.promise(6, "or THIS one has changed since (tile(), turn(), join(), swap(), clear())");
        Counted tiled = Made.rich();
        tiled.tile(3, 9, 1, 1);
        everySideThrows("after tile()", tiled);
        for (int way = 0; way < 8; way++) {
            Counted turned = Made.rich();
            turned.turn(way);
            everySideThrows("after turn(" + way + ")", turned);
        }
        for (int side = 0; side < 4; side++) {
            Counted joined = Made.rich();
            joined.join(side);
            everySideThrows("after join(" + side + ")", joined);
        }
        Counted swapped = Made.rich();
        swapped.swap();
        everySideThrows("after swap()", swapped);
        swapped.swap();
        everySideThrows("after swap() twice", swapped);
        Counted cleared = Made.rich();
        cleared.clear();
        everySideThrows("after clear()", cleared);
    }

    private static void promise6NotChanged() {
        check.promise(6, "or THIS one has changed since (tile(), turn(), join(), swap(), clear())");
        Counted x = Made.rich();
        check.due("byteOf", x.byteOf(1, 8), 1);
        check.near(x, 0, 0, 9, 11);
        check.due("note", x.note(1, 1, 8), 3);
        check.near(x, 0, 0, 9, 11);
        check.due("write", x.write(), 63 + 1 + 5);
        check.near(x, 0, 0, 9, 11);
        x.at(0, 0);
        x.byteAt(0, 0);
        x.shown(0, 0);
        x.noteAt(0, 0);
        x.streamAt(0);
        x.pointer(0);
        x.told(0);
        check.near(x, 0, 0, 9, 11);
    }

    private static void keepsNear(Supplier<Counted> maker, ToIntFunction<Counted> made, String answer) {
        Counted x = maker.get();
        int[] due = {x.near(0), x.near(1), x.near(2), x.near(3)};
        check.due("a call that throws", Check.answerOf(() -> made.applyAsInt(x)), answer);
        check.near(x, due);
    }

    private static void promise6NotChangedByWhatThrows() {
        check.promise(6, "A call that throws changes nothing");
        keepsNear(Made::rich, x -> x.tile(0, 0, 0, 1), Check.ARGUMENT);
        keepsNear(Made::rich, x -> x.tile(8, 0, 1, 1), Check.STATE);
        keepsNear(Made::full, x -> x.tile(45, 0, 1, 1), Check.NO_ROOM);
        keepsNear(Made::rich, x -> x.turn(8), Check.ARGUMENT);
        keepsNear(Made::rich, x -> x.turn(-1), Check.ARGUMENT);
        keepsNear(Made::rich, x -> x.join(4), Check.INDEX);
        keepsNear(Made::unlike, x -> x.join(0), Check.STATE);
        keepsNear(Made::unlike, x -> x.join(1), Check.STATE);
        keepsNear(Made::full, x -> x.join(3), Check.NO_ROOM);
        keepsNear(() -> Made.longest(true), x -> x.join(0), Check.NO_ROOM);
        keepsNear(() -> Made.longest(false), x -> x.join(1), Check.NO_ROOM);
        keepsNear(Made::rich, x -> x.near(4), Check.INDEX);
        keepsNear(Made::rich, x -> x.byteOf(3, 0), Check.INDEX);
        keepsNear(Made::rich, x -> x.note(9, 0, 0), Check.INDEX);
        keepsNear(Made::rich, x -> x.streamAt(-1), Check.INDEX);
    }

    private static void promise6AskingChangesNothing() {
        check.promise(6, "the nearest border that fits");
        for (int side = 0; side < 4; side++) {
            int s = side;
            String due = String.valueOf(Made.rich().near(s));
            Everything.unchanged(check, Made::rich, "near(" + s + ")", x -> x.near(s), due);
            Everything.unchanged(check, Made::richAndQuiet, "near(" + s + ")", x -> x.near(s), Check.STATE);
        }
        Everything.unchanged(check, Made::rich, "near(4)", x -> x.near(4), Check.INDEX);
        Everything.unchanged(check, Made::rich, "near(-1)", x -> x.near(-1), Check.INDEX);
    }
}
