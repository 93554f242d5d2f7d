/**
 * Pictures that stand in tiles are cropped, turned, mirrored and joined without decoding a tile.
 *
 * <p>All rows are made once, in the constructor: no later call makes an object.
 */
public final class LossFreeTools {
    public static final int NONE = -1;

    private static final int FIRST_SIZE_MAX = 200;
    private static final int SIZE_MAX = 400;
    private static final int TILES_MAX = 40;
    private static final int TILE_SIZE_MAX = 64;
    private static final int BYTES_MAX = 12;
    private static final int NOTES_MAX = 20;
    private static final int BYTE_MAX = 255;

    private static final int WAYS = 8;
    private static final int MIRROR = 4;

    private static final int SIDES = 4;
    private static final int LEFT = 0;
    private static final int UPPER = 1;
    private static final int RIGHT = 2;
    private static final int LOWER = 3;

    private static final int FIRST_MARK = 76;
    private static final int SECOND_MARK = 70;
    // Two marks, width and height, and the two counts.
    private static final int HEAD_LENGTH = 8;
    private static final int POINTER_LENGTH = 2;
    private static final int NOTE_LENGTH = 5;
    // A part without its bytes: four numbers, way and count, the sum.
    private static final int BARE_PART_LENGTH = 12;
    private static final int STREAM_MAX = HEAD_LENGTH
            + NOTES_MAX * NOTE_LENGTH
            + TILES_MAX * (POINTER_LENGTH + BARE_PART_LENGTH + BYTES_MAX);

    private static final int SUM_START = 1;
    private static final int SUM_FACTOR = 31;
    private static final int SUM_MODULUS = 65521;

    private final int firstWidth;
    private final int firstHeight;
    private final Stream stream;
    private final int[] askedBorders;
    private Picture here;
    private Picture other;
    private int wayDone;
    private boolean refused;

    public LossFreeTools(int width, int height) {
        firstWidth = nearestFirstSize(width);
        firstHeight = nearestFirstSize(height);
        stream = new Stream();
        askedBorders = new int[SIDES];
        here = new Picture(firstWidth, firstHeight);
        other = new Picture(firstWidth, firstHeight);
        wayDone = 0;
        refused = false;
    }

    public int tile(int x, int y, int w, int h)
            throws IllegalArgumentException, IllegalStateException, UnsupportedOperationException {
        if (w > TILE_SIZE_MAX || h > TILE_SIZE_MAX || !here.holdsRectangle(x, y, w, h)) {
            throw new IllegalArgumentException("not a tile of the picture");
        }
        if (here.overlapsTile(x, y, w, h)) {
            throw new IllegalStateException("another tile has a sample in common");
        }
        if (here.tileCount >= TILES_MAX) {
            throw new UnsupportedOperationException("no room for a tile more");
        }
        refused = false;
        return here.addTile(x, y, w, h);
    }

    public int byteOf(int tile, int b)
            throws IndexOutOfBoundsException, IllegalArgumentException, UnsupportedOperationException {
        if (!here.hasTile(tile)) {
            throw new IndexOutOfBoundsException("no such tile");
        }
        if (!isByte(b)) {
            throw new IllegalArgumentException("not a byte");
        }
        Tile t = here.tiles[tile];
        if (t.byteCount >= BYTES_MAX) {
            throw new UnsupportedOperationException("no room for a byte more");
        }
        return t.addByte(b);
    }

    public int note(int x, int y, int b)
            throws IndexOutOfBoundsException, IllegalArgumentException, UnsupportedOperationException {
        if (!here.hasSample(x, y)) {
            throw new IndexOutOfBoundsException("no such sample");
        }
        if (!isByte(b)) {
            throw new IllegalArgumentException("not a byte");
        }
        if (here.noteCount >= NOTES_MAX) {
            throw new UnsupportedOperationException("no room for a note more");
        }
        return here.addNote(x, y, b);
    }

    public int crop(int x, int y, int w, int h) throws IllegalArgumentException {
        // A crop that throws is the latest one too, and was not refused.
        refused = false;
        if (!here.holdsRectangle(x, y, w, h)) {
            throw new IllegalArgumentException("not a rectangle of the picture");
        }
        askedBorders[LEFT] = x;
        askedBorders[UPPER] = y;
        askedBorders[RIGHT] = x + w;
        askedBorders[LOWER] = y + h;
        refused = !allAskedFit();
        if (refused) {
            return NONE;
        }
        return here.cutTo(x, y, w, h);
    }

    public int near(int side) throws IndexOutOfBoundsException, IllegalStateException {
        if (!isSide(side)) {
            throw new IndexOutOfBoundsException("no such side");
        }
        if (!refused) {
            throw new IllegalStateException("no refused crop of the picture as it is");
        }
        return here.nearestFit(isUpright(side), askedBorders[side]);
    }

    public int turn(int way) throws IllegalArgumentException {
        if (way < 0 || way >= WAYS) {
            throw new IllegalArgumentException("no such way");
        }
        here.showBy(way);
        wayDone = together(wayDone, way);
        refused = false;
        return wayDone;
    }

    public int swap() {
        Picture kept = here;
        here = other;
        other = kept;
        wayDone = 0;
        refused = false;
        return here.tileCount;
    }

    public int join(int side)
            throws IndexOutOfBoundsException, IllegalStateException, UnsupportedOperationException {
        if (!isSide(side)) {
            throw new IndexOutOfBoundsException("no such side");
        }
        boolean beside = isUpright(side);
        if (here.sizeAlong(!beside) != other.sizeAlong(!beside)) {
            throw new IllegalStateException("the sides that meet are not alike");
        }
        if (!here.hasRoomFor(other, beside)) {
            throw new UnsupportedOperationException("no room for both pictures in one");
        }
        makePlaceAt(side);
        here.takeOver(other);
        wayDone = 0;
        refused = false;
        return here.tileCount;
    }

    public int at(int tile, int what) throws IndexOutOfBoundsException {
        if (!here.hasTile(tile)) {
            throw new IndexOutOfBoundsException("no such tile");
        }
        Tile t = here.tiles[tile];
        switch (what) {
            case 0: return t.x;
            case 1: return t.y;
            case 2: return t.w;
            case 3: return t.h;
            case 4: return t.way;
            case 5: return t.byteCount;
            case 6: return t.ownWidth();
            case 7: return t.ownHeight();
            default: return NONE;
        }
    }

    public int byteAt(int tile, int i) throws IndexOutOfBoundsException {
        if (!here.hasTile(tile)) {
            throw new IndexOutOfBoundsException("no such tile");
        }
        Tile t = here.tiles[tile];
        if (i < 0 || i >= t.byteCount) {
            throw new IndexOutOfBoundsException("no such byte");
        }
        return t.bytes[i];
    }

    public int shown(int x, int y) throws IndexOutOfBoundsException {
        if (!here.hasSample(x, y)) {
            throw new IndexOutOfBoundsException("no such sample");
        }
        int tile = here.tileOver(x, y);
        if (tile == NONE) {
            return NONE;
        }
        return TILE_SIZE_MAX * TILE_SIZE_MAX * tile + here.tiles[tile].ownSample(x, y);
    }

    public int noteAt(int k, int what) throws IndexOutOfBoundsException {
        if (k < 0 || k >= here.noteCount) {
            throw new IndexOutOfBoundsException("no such note");
        }
        Note n = here.notes[k];
        switch (what) {
            case 0: return n.x;
            case 1: return n.y;
            case 2: return n.value;
            default: return NONE;
        }
    }

    public int write() {
        stream.empty();
        here.putHead(stream);
        for (int i = 0; i < here.tileCount; i++) {
            Tile t = here.tiles[i];
            // Parts are put where their pointers point, so that nothing has to be sorted.
            stream.goTo(here.placeOfPart(t));
            t.putPart(stream);
        }
        return stream.length;
    }

    public int streamAt(int i) throws IndexOutOfBoundsException {
        if (i < 0 || i >= stream.length) {
            throw new IndexOutOfBoundsException("no such byte");
        }
        return stream.bytes[i];
    }

    public int pointer(int tile) throws IndexOutOfBoundsException {
        if (!here.hasTile(tile)) {
            throw new IndexOutOfBoundsException("no such tile");
        }
        return here.placeOfPart(here.tiles[tile]);
    }

    public int told(int what) {
        switch (what) {
            case 0: return here.width;
            case 1: return here.height;
            case 2: return here.tileCount;
            case 3: return here.noteCount;
            case 4: return stream.length;
            case 5: return other.width;
            case 6: return other.height;
            case 7: return other.tileCount;
            case 8: return other.noteCount;
            default: return NONE;
        }
    }

    public void clear() {
        here.startAnew(firstWidth, firstHeight);
        other.startAnew(firstWidth, firstHeight);
        stream.empty();
        wayDone = 0;
        refused = false;
    }

    private boolean allAskedFit() {
        for (int side = 0; side < SIDES; side++) {
            if (!here.borderFits(isUpright(side), askedBorders[side])) {
                return false;
            }
        }
        return true;
    }

    private void makePlaceAt(int side) {
        boolean beside = isUpright(side);
        int hereSize = here.sizeAlong(beside);
        int otherSize = other.sizeAlong(beside);
        if (side == LEFT || side == UPPER) {
            here.moveAlong(beside, otherSize);
        } else {
            other.moveAlong(beside, hereSize);
        }
        here.growAlong(beside, otherSize);
    }

    private static int nearestFirstSize(int size) {
        return Math.max(1, Math.min(FIRST_SIZE_MAX, size));
    }

    private static boolean isByte(int b) {
        return b >= 0 && b <= BYTE_MAX;
    }

    private static boolean isSide(int side) {
        return side >= 0 && side < SIDES;
    }

    private static boolean isUpright(int side) {
        return side == LEFT || side == RIGHT;
    }

    private static boolean mirrors(int way) {
        return way >= MIRROR;
    }

    private static int quarters(int way) {
        return way & (MIRROR - 1);
    }

    private static int together(int first, int second) {
        // To mirror what was turned to the right is to turn its mirror image to the left.
        int turned = mirrors(second)
                ? quarters(second) - quarters(first)
                : quarters(second) + quarters(first);
        int mirrored = mirrors(first) != mirrors(second) ? MIRROR : 0;
        return mirrored + quarters(turned);
    }

    private static final class Tile {
        final int[] bytes;
        int byteCount;
        int x;
        int y;
        int w;
        int h;
        int way;

        Tile() {
            bytes = new int[BYTES_MAX];
        }

        void startAnew(int newX, int newY, int newW, int newH) {
            x = newX;
            y = newY;
            w = newW;
            h = newH;
            way = 0;
            byteCount = 0;
        }

        int addByte(int b) {
            if (byteCount < bytes.length) {
                bytes[byteCount] = b;
                byteCount++;
            }
            return byteCount;
        }

        boolean liesOnItsSide() {
            return (quarters(way) & 1) == 1;
        }

        int ownWidth() {
            return liesOnItsSide() ? h : w;
        }

        int ownHeight() {
            return liesOnItsSide() ? w : h;
        }

        boolean overlaps(int otherX, int otherY, int otherW, int otherH) {
            return otherX < x + w && x < otherX + otherW
                    && otherY < y + h && y < otherY + otherH;
        }

        boolean crosses(boolean upright, int border) {
            int first = upright ? x : y;
            int size = upright ? w : h;
            return first < border && border < first + size;
        }

        boolean isWithin(int left, int upper, int right, int lower) {
            return x >= left && y >= upper && x + w <= right && y + h <= lower;
        }

        boolean partComesBefore(Tile t) {
            return y < t.y || (y == t.y && x < t.x);
        }

        void moveBy(int dx, int dy) {
            x += dx;
            y += dy;
        }

        void mirrorIn(int pictureWidth) {
            x = pictureWidth - x - w;
        }

        void quarterIn(int pictureHeight) {
            int newX = pictureHeight - y - h;
            y = x;
            x = newX;
            int oldW = w;
            w = h;
            h = oldW;
        }

        int ownSample(int sampleX, int sampleY) {
            int ownX = sampleX - x;
            int ownY = sampleY - y;
            int wide = w;
            int high = h;
            for (int i = 0; i < quarters(way); i++) {
                int turnedX = ownX;
                ownX = ownY;
                ownY = wide - 1 - turnedX;
                int oldWide = wide;
                wide = high;
                high = oldWide;
            }
            if (mirrors(way)) {
                ownX = wide - 1 - ownX;
            }
            return TILE_SIZE_MAX * ownY + ownX;
        }

        int partLength() {
            return BARE_PART_LENGTH + byteCount;
        }

        void putPart(Stream to) {
            int start = to.place;
            to.putNumber(x);
            to.putNumber(y);
            to.putNumber(w);
            to.putNumber(h);
            to.putByte(way);
            to.putByte(byteCount);
            for (int i = 0; i < byteCount; i++) {
                to.putByte(bytes[i]);
            }
            to.putNumber(to.sumFrom(start));
        }
    }

    private static final class Note {
        int x;
        int y;
        int value;

        void startAnew(int newX, int newY, int newValue) {
            x = newX;
            y = newY;
            value = newValue;
        }

        boolean isWithin(int left, int upper, int right, int lower) {
            return x >= left && y >= upper && x < right && y < lower;
        }

        void moveBy(int dx, int dy) {
            x += dx;
            y += dy;
        }

        void mirrorIn(int pictureWidth) {
            x = pictureWidth - 1 - x;
        }

        void quarterIn(int pictureHeight) {
            int newX = pictureHeight - 1 - y;
            y = x;
            x = newX;
        }
    }

    /**
     * The rows of tiles and notes are always full of objects; the counts tell how many are in use.
     * Objects change places between rows, and are never made or thrown away.
     */
    private static final class Picture {
        final Tile[] tiles;
        final Note[] notes;
        int tileCount;
        int noteCount;
        int width;
        int height;

        Picture(int firstWidth, int firstHeight) {
            tiles = new Tile[TILES_MAX];
            for (int i = 0; i < TILES_MAX; i++) {
                tiles[i] = new Tile();
            }
            notes = new Note[NOTES_MAX];
            for (int i = 0; i < NOTES_MAX; i++) {
                notes[i] = new Note();
            }
            width = firstWidth;
            height = firstHeight;
        }

        void startAnew(int newWidth, int newHeight) {
            width = newWidth;
            height = newHeight;
            tileCount = 0;
            noteCount = 0;
        }

        boolean hasTile(int tile) {
            return tile >= 0 && tile < tileCount;
        }

        boolean hasSample(int x, int y) {
            return x >= 0 && y >= 0 && x < width && y < height;
        }

        boolean holdsRectangle(int x, int y, int w, int h) {
            // The sizes are taken away, not added, so that no sum can wrap around.
            return w >= 1 && h >= 1 && x >= 0 && y >= 0 && x <= width - w && y <= height - h;
        }

        int sizeAlong(boolean level) {
            return level ? width : height;
        }

        boolean overlapsTile(int x, int y, int w, int h) {
            for (int i = 0; i < tileCount; i++) {
                if (tiles[i].overlaps(x, y, w, h)) {
                    return true;
                }
            }
            return false;
        }

        int tileOver(int x, int y) {
            for (int i = 0; i < tileCount; i++) {
                if (tiles[i].overlaps(x, y, 1, 1)) {
                    return i;
                }
            }
            return NONE;
        }

        int addTile(int x, int y, int w, int h) {
            if (tileCount >= tiles.length) {
                return NONE;
            }
            tiles[tileCount].startAnew(x, y, w, h);
            tileCount++;
            return tileCount - 1;
        }

        int addNote(int x, int y, int value) {
            if (noteCount < notes.length) {
                notes[noteCount].startAnew(x, y, value);
                noteCount++;
            }
            return noteCount;
        }

        boolean borderFits(boolean upright, int border) {
            for (int i = 0; i < tileCount; i++) {
                if (tiles[i].crosses(upright, border)) {
                    return false;
                }
            }
            return true;
        }

        int nearestFit(boolean upright, int border) {
            int last = sizeAlong(upright);
            for (int away = 0; away <= last; away++) {
                int lesser = border - away;
                if (lesser >= 0 && borderFits(upright, lesser)) {
                    return lesser;
                }
                int greater = border + away;
                if (greater <= last && borderFits(upright, greater)) {
                    return greater;
                }
            }
            return 0;
        }

        int cutTo(int x, int y, int w, int h) {
            keepTilesWithin(x, y, x + w, y + h);
            keepNotesWithin(x, y, x + w, y + h);
            moveBy(-x, -y);
            width = w;
            height = h;
            return tileCount;
        }

        void keepTilesWithin(int left, int upper, int right, int lower) {
            int kept = 0;
            for (int i = 0; i < tileCount; i++) {
                Tile t = tiles[i];
                if (t.isWithin(left, upper, right, lower)) {
                    tiles[i] = tiles[kept];
                    tiles[kept] = t;
                    kept++;
                }
            }
            tileCount = kept;
        }

        void keepNotesWithin(int left, int upper, int right, int lower) {
            int kept = 0;
            for (int i = 0; i < noteCount; i++) {
                Note n = notes[i];
                if (n.isWithin(left, upper, right, lower)) {
                    notes[i] = notes[kept];
                    notes[kept] = n;
                    kept++;
                }
            }
            noteCount = kept;
        }

        void moveBy(int dx, int dy) {
            for (int i = 0; i < tileCount; i++) {
                tiles[i].moveBy(dx, dy);
            }
            for (int i = 0; i < noteCount; i++) {
                notes[i].moveBy(dx, dy);
            }
        }

        void moveAlong(boolean level, int distance) {
            moveBy(level ? distance : 0, level ? 0 : distance);
        }

        void growAlong(boolean level, int more) {
            width += level ? more : 0;
            height += level ? 0 : more;
        }

        void showBy(int way) {
            if (mirrors(way)) {
                mirror();
            }
            for (int i = 0; i < quarters(way); i++) {
                turnQuarter();
            }
            for (int i = 0; i < tileCount; i++) {
                tiles[i].way = together(tiles[i].way, way);
            }
        }

        void mirror() {
            for (int i = 0; i < tileCount; i++) {
                tiles[i].mirrorIn(width);
            }
            for (int i = 0; i < noteCount; i++) {
                notes[i].mirrorIn(width);
            }
        }

        void turnQuarter() {
            for (int i = 0; i < tileCount; i++) {
                tiles[i].quarterIn(height);
            }
            for (int i = 0; i < noteCount; i++) {
                notes[i].quarterIn(height);
            }
            int oldWidth = width;
            width = height;
            height = oldWidth;
        }

        boolean hasRoomFor(Picture p, boolean beside) {
            return sizeAlong(beside) + p.sizeAlong(beside) <= SIZE_MAX
                    && tileCount + p.tileCount <= TILES_MAX
                    && noteCount + p.noteCount <= NOTES_MAX;
        }

        void takeOver(Picture p) {
            for (int i = 0; i < p.tileCount && tileCount < tiles.length; i++) {
                Tile free = tiles[tileCount];
                tiles[tileCount] = p.tiles[i];
                p.tiles[i] = free;
                tileCount++;
            }
            for (int i = 0; i < p.noteCount && noteCount < notes.length; i++) {
                Note free = notes[noteCount];
                notes[noteCount] = p.notes[i];
                p.notes[i] = free;
                noteCount++;
            }
            p.tileCount = 0;
            p.noteCount = 0;
        }

        int placeOfPart(Tile t) {
            int place = HEAD_LENGTH + POINTER_LENGTH * tileCount + NOTE_LENGTH * noteCount;
            for (int i = 0; i < tileCount; i++) {
                if (tiles[i].partComesBefore(t)) {
                    place += tiles[i].partLength();
                }
            }
            return place;
        }

        void putHead(Stream to) {
            to.putByte(FIRST_MARK);
            to.putByte(SECOND_MARK);
            to.putNumber(width);
            to.putNumber(height);
            to.putByte(tileCount);
            for (int i = 0; i < tileCount; i++) {
                to.putNumber(placeOfPart(tiles[i]));
            }
            to.putByte(noteCount);
            for (int i = 0; i < noteCount; i++) {
                to.putNumber(notes[i].x);
                to.putNumber(notes[i].y);
                to.putByte(notes[i].value);
            }
        }
    }

    private static final class Stream {
        final int[] bytes;
        int length;
        int place;

        Stream() {
            bytes = new int[STREAM_MAX];
        }

        void empty() {
            length = 0;
            place = 0;
        }

        void goTo(int newPlace) {
            place = newPlace;
        }

        void putByte(int b) {
            if (place < 0 || place >= bytes.length) {
                return;
            }
            bytes[place] = b;
            place++;
            length = Math.max(length, place);
        }

        void putNumber(int number) {
            putByte(number & BYTE_MAX);
            putByte((number >> 8) & BYTE_MAX);
        }

        int sumFrom(int start) {
            int sum = SUM_START;
            for (int i = Math.max(0, start); i < place && i < bytes.length; i++) {
                sum = (sum * SUM_FACTOR + bytes[i]) % SUM_MODULUS;
            }
            return sum;
        }
    }
}
