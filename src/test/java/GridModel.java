import java.io.ByteArrayOutputStream;
import java.util.ArrayList;
import java.util.Comparator;
import java.util.List;

/**
 * The document once more, held sample by sample: slow, and built as unlike the class as can be,
 * so that both are hardly wrong in the same way.
 */
final class GridModel {
    private static final class Tile {
        int x;
        int y;
        int w;
        int h;
        int ownW;
        int ownH;
        int way;
        final List<Integer> bytes = new ArrayList<>();
    }

    /** What is at one sample. */
    private static final class Sample {
        Tile tile;
        int ownX;
        int ownY;
        final List<int[]> notes = new ArrayList<>();
    }

    private static final class Picture {
        Sample[][] rows;
        List<Tile> tiles = new ArrayList<>();
        List<int[]> notes = new ArrayList<>();

        Picture(int w, int h) {
            rows = emptyRows(w, h);
        }

        int width() {
            return rows[0].length;
        }

        int height() {
            return rows.length;
        }
    }

    private final int firstW;
    private final int firstH;
    private Picture here;
    private Picture other;
    private byte[] stream = new byte[0];
    private int way = 0;
    private int[] refused = null;

    GridModel(int w, int h) {
        firstW = w < 1 ? 1 : w > 200 ? 200 : w;
        firstH = h < 1 ? 1 : h > 200 ? 200 : h;
        here = new Picture(firstW, firstH);
        other = new Picture(firstW, firstH);
    }

    int tile(int x, int y, int w, int h) {
        if (w < 1 || w > 64 || h < 1 || h > 64 || !inside(x, y, w, h)) {
            throw new IllegalArgumentException();
        }
        for (int j = y; j < y + h; j++) {
            for (int i = x; i < x + w; i++) {
                if (here.rows[j][i].tile != null) {
                    throw new IllegalStateException();
                }
            }
        }
        if (here.tiles.size() == 40) {
            throw new UnsupportedOperationException();
        }
        Tile t = new Tile();
        t.ownW = w;
        t.ownH = h;
        for (int j = y; j < y + h; j++) {
            for (int i = x; i < x + w; i++) {
                Sample s = here.rows[j][i];
                s.tile = t;
                s.ownX = i - x;
                s.ownY = j - y;
            }
        }
        here.tiles.add(t);
        findPlaces(here);
        refused = null;
        return here.tiles.size() - 1;
    }

    int byteOf(int tile, int b) {
        Tile t = tileOf(tile);
        if (b < 0 || b > 255) {
            throw new IllegalArgumentException();
        }
        if (t.bytes.size() == 12) {
            throw new UnsupportedOperationException();
        }
        t.bytes.add(b);
        return t.bytes.size();
    }

    int note(int x, int y, int b) {
        Sample s = sampleOf(x, y);
        if (b < 0 || b > 255) {
            throw new IllegalArgumentException();
        }
        if (here.notes.size() == 20) {
            throw new UnsupportedOperationException();
        }
        int[] n = {x, y, b};
        s.notes.add(n);
        here.notes.add(n);
        return here.notes.size();
    }

    int crop(int x, int y, int w, int h) {
        refused = null;
        if (w < 1 || h < 1 || !inside(x, y, w, h)) {
            throw new IllegalArgumentException();
        }
        if (!fits(0, x) || !fits(1, y) || !fits(0, x + w) || !fits(1, y + h)) {
            refused = new int[] {x, y, x + w, y + h};
            return -1;
        }
        Sample[][] rows = new Sample[h][w];
        List<Tile> tiles = new ArrayList<>();
        List<int[]> notes = new ArrayList<>();
        for (int j = 0; j < h; j++) {
            for (int i = 0; i < w; i++) {
                rows[j][i] = here.rows[y + j][x + i];
                tiles.add(rows[j][i].tile);
                notes.addAll(rows[j][i].notes);
            }
        }
        here.rows = rows;
        here.tiles.retainAll(tiles);
        here.notes.removeIf(n -> !notes.contains(n));
        findPlaces(here);
        return here.tiles.size();
    }

    int near(int side) {
        if (side < 0 || side > 3) {
            throw new IndexOutOfBoundsException();
        }
        if (refused == null) {
            throw new IllegalStateException();
        }
        int asked = refused[side];
        int best = 0;
        int last = side % 2 == 0 ? here.width() : here.height();
        for (int c = 1; c <= last; c++) {
            if (fits(side % 2, c) && Math.abs(c - asked) < Math.abs(best - asked)) {
                best = c;
            }
        }
        return best;
    }

    int turn(int by) {
        if (by < 0 || by > 7) {
            throw new IllegalArgumentException();
        }
        here.rows = shownBy(here.rows, by);
        for (Tile t : here.tiles) {
            t.way = wayOfBoth(t.way, by);
        }
        findPlaces(here);
        way = wayOfBoth(way, by);
        refused = null;
        return way;
    }

    int swap() {
        Picture p = here;
        here = other;
        other = p;
        way = 0;
        refused = null;
        return here.tiles.size();
    }

    int join(int side) {
        if (side < 0 || side > 3) {
            throw new IndexOutOfBoundsException();
        }
        boolean beside = side % 2 == 0;
        if (beside ? here.height() != other.height() : here.width() != other.width()) {
            throw new IllegalStateException();
        }
        int w = beside ? here.width() + other.width() : here.width();
        int h = beside ? here.height() : here.height() + other.height();
        if (w > 400 || h > 400 || here.tiles.size() + other.tiles.size() > 40
                || here.notes.size() + other.notes.size() > 20) {
            throw new UnsupportedOperationException();
        }
        Picture first = side < 2 ? other : here;
        Picture second = side < 2 ? here : other;
        Sample[][] rows = new Sample[h][w];
        for (int j = 0; j < h; j++) {
            for (int i = 0; i < w; i++) {
                boolean inFirst = i < first.width() && j < first.height();
                rows[j][i] = inFirst ? first.rows[j][i]
                        : second.rows[beside ? j : j - first.height()][beside ? i - first.width() : i];
            }
        }
        here.rows = rows;
        here.tiles.addAll(other.tiles);
        here.notes.addAll(other.notes);
        other = new Picture(other.width(), other.height());
        findPlaces(here);
        way = 0;
        refused = null;
        return here.tiles.size();
    }

    int at(int tile, int what) {
        Tile t = tileOf(tile);
        int[] all = {t.x, t.y, t.w, t.h, t.way, t.bytes.size(), t.ownW, t.ownH};
        return what < 0 || what > 7 ? -1 : all[what];
    }

    int byteAt(int tile, int i) {
        Tile t = tileOf(tile);
        if (i < 0 || i >= t.bytes.size()) {
            throw new IndexOutOfBoundsException();
        }
        return t.bytes.get(i);
    }

    int shown(int x, int y) {
        Sample s = sampleOf(x, y);
        return s.tile == null ? -1 : 4096 * here.tiles.indexOf(s.tile) + 64 * s.ownY + s.ownX;
    }

    int noteAt(int k, int what) {
        if (k < 0 || k >= here.notes.size()) {
            throw new IndexOutOfBoundsException();
        }
        return what < 0 || what > 2 ? -1 : here.notes.get(k)[what];
    }

    int write() {
        stream = streamOf();
        return stream.length;
    }

    int streamAt(int i) {
        if (i < 0 || i >= stream.length) {
            throw new IndexOutOfBoundsException();
        }
        return stream[i] & 255;
    }

    int pointer(int tile) {
        tileOf(tile);
        byte[] s = streamOf();
        return (s[7 + 2 * tile] & 255) + 256 * (s[8 + 2 * tile] & 255);
    }

    int told(int what) {
        int[] all = {here.width(), here.height(), here.tiles.size(), here.notes.size(), stream.length,
            other.width(), other.height(), other.tiles.size(), other.notes.size()};
        return what < 0 || what > 8 ? -1 : all[what];
    }

    int clear() {
        here = new Picture(firstW, firstH);
        other = new Picture(firstW, firstH);
        stream = new byte[0];
        way = 0;
        refused = null;
        return 0;
    }

    private static Sample[][] emptyRows(int w, int h) {
        Sample[][] rows = new Sample[h][w];
        for (Sample[] row : rows) {
            for (int i = 0; i < w; i++) {
                row[i] = new Sample();
            }
        }
        return rows;
    }

    private boolean inside(int x, int y, int w, int h) {
        return x >= 0 && y >= 0 && (long) x + w <= here.width() && (long) y + h <= here.height();
    }

    private Tile tileOf(int tile) {
        if (tile < 0 || tile >= here.tiles.size()) {
            throw new IndexOutOfBoundsException();
        }
        return here.tiles.get(tile);
    }

    private Sample sampleOf(int x, int y) {
        if (!inside(x, y, 1, 1)) {
            throw new IndexOutOfBoundsException();
        }
        return here.rows[y][x];
    }

    /** kind 0: the upright border before column c; kind 1: the level one before row c. */
    private boolean fits(int kind, int c) {
        if (c == 0 || c == (kind == 0 ? here.width() : here.height())) {
            return true;
        }
        int long0 = kind == 0 ? here.height() : here.width();
        for (int k = 0; k < long0; k++) {
            Sample a = kind == 0 ? here.rows[k][c - 1] : here.rows[c - 1][k];
            Sample b = kind == 0 ? here.rows[k][c] : here.rows[c][k];
            if (a.tile != null && a.tile == b.tile) {
                return false;
            }
        }
        return true;
    }

    private static Sample[][] shownBy(Sample[][] rows, int by) {
        Sample[][] now = rows;
        for (int step = by >= 4 ? -1 : 0; step < by % 4; step++) {
            int w = now[0].length;
            int h = now.length;
            Sample[][] next = step < 0 ? new Sample[h][w] : new Sample[w][h];
            for (int y = 0; y < h; y++) {
                for (int x = 0; x < w; x++) {
                    if (step < 0) {
                        next[y][w - 1 - x] = now[y][x];
                    } else {
                        next[x][h - 1 - y] = now[y][x];
                    }
                }
            }
            now = next;
        }
        return now;
    }

    /** Which of the eight does to a small grid what the two do one after the other. */
    private static int wayOfBoth(int first, int second) {
        Sample[][] grid = emptyRows(3, 2);
        Sample[][] both = shownBy(shownBy(grid, first), second);
        for (int w = 0; w < 8; w++) {
            Sample[][] one = shownBy(grid, w);
            if (one.length == both.length && one[0][0] == both[0][0] && one[1][0] == both[1][0]) {
                return w;
            }
        }
        throw new AssertionError("no such way");
    }

    private static void findPlaces(Picture p) {
        for (Tile t : p.tiles) {
            t.x = Integer.MAX_VALUE;
        }
        for (int y = 0; y < p.height(); y++) {
            for (int x = 0; x < p.width(); x++) {
                Sample s = p.rows[y][x];
                Tile t = s.tile;
                for (int[] n : s.notes) {
                    n[0] = x;
                    n[1] = y;
                }
                if (t != null) {
                    if (t.x == Integer.MAX_VALUE) {
                        t.x = x;
                        t.y = y;
                    }
                    t.w = x - t.x + 1;
                    t.h = y - t.y + 1;
                }
            }
        }
    }

    private byte[] streamOf() {
        List<Tile> byPlace = new ArrayList<>(here.tiles);
        byPlace.sort(Comparator.<Tile>comparingInt(t -> t.y).thenComparingInt(t -> t.x));
        int begin = 8 + 2 * here.tiles.size() + 5 * here.notes.size();
        int[] pointers = new int[here.tiles.size()];
        ByteArrayOutputStream parts = new ByteArrayOutputStream();
        for (Tile t : byPlace) {
            pointers[here.tiles.indexOf(t)] = begin + parts.size();
            parts.writeBytes(partOf(t));
        }
        ByteArrayOutputStream all = new ByteArrayOutputStream();
        all.write(76);
        all.write(70);
        number(all, here.width());
        number(all, here.height());
        all.write(pointers.length);
        for (int p : pointers) {
            number(all, p);
        }
        all.write(here.notes.size());
        for (int[] n : here.notes) {
            number(all, n[0]);
            number(all, n[1]);
            all.write(n[2]);
        }
        all.writeBytes(parts.toByteArray());
        return all.toByteArray();
    }

    private static byte[] partOf(Tile t) {
        ByteArrayOutputStream part = new ByteArrayOutputStream();
        number(part, t.x);
        number(part, t.y);
        number(part, t.w);
        number(part, t.h);
        part.write(t.way);
        part.write(t.bytes.size());
        for (int b : t.bytes) {
            part.write(b);
        }
        long sum = 1;
        for (byte b : part.toByteArray()) {
            sum = (sum * 31 + (b & 255)) % 65521;
        }
        number(part, (int) sum);
        return part.toByteArray();
    }

    private static void number(ByteArrayOutputStream to, int n) {
        to.write(n % 256);
        to.write(n / 256);
    }
}
