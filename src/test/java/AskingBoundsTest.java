import java.util.ArrayList;
import java.util.Comparator;
import java.util.List;
import java.util.Map;
import java.util.function.Supplier;
import java.util.function.ToIntFunction;

/** Promises 10 to 18 at their bounds: what is told, the stream, and clear. */
public final class AskingBoundsTest {
    private static final int MIN = Integer.MIN_VALUE;
    private static final int MAX = Integer.MAX_VALUE;
    private static final List<Supplier<Counted>> OBJECTS = List.of(
            () -> new Counted(1, 1), () -> new Counted(200, 200), Made::rich, Made::richAndQuiet, Made::full,
            Made::unlike, () -> Made.longest(true), () -> Made.longest(false));
    private static final Check check = new Check();

    public static void main(String[] args) {
        promise10EveryWhat();
        promise10NoSuchTile();
        promise10ChangesNothing();
        promise11NoneAndTwelve();
        promise11NoSuchTileOrByte();
        promise11ChangesNothing();
        promise12LeastAndGreatest();
        promise12NoTileThere();
        promise12NoSuchSample();
        promise12ChangesNothing();
        promise13EveryWhat();
        promise13NoSuchNote();
        promise13ChangesNothing();
        promise14EveryObject();
        promise14NoTilesNoNotes();
        promise14NumbersOfTwoBytes();
        promise14PartsByYThenX();
        promise14AsMuchAsThereMayBe();
        promise14EveryWay();
        promise14Sum();
        promise14OfThisOneAsItIs();
        promise15NoSuchByte();
        promise15TheLatest();
        promise15ChangesNothing();
        promise16NoSuchTile();
        promise16FirstAndLast();
        promise16AsItIsNow();
        promise16ChangesNothing();
        promise17EveryWhat();
        promise17BytesOfTheStream();
        promise17ChangesNothing();
        promise18AsAtFirst();
        promise18AllTheRoomAgain();
        check.end();
    }

    private static void promise10EveryWhat() {
        check.promise(10, "NONE for another what");
        Counted x = new Counted(9, 8);
        x.tile(1, 2, 3, 4);
        x.byteOf(0, 5);
        x.turn(5);
        check.at(x, 0, 2, 5, 4, 3, 5, 1, 3, 4);
        for (int what : new int[] {-1, -2, -8, 8, 9, 16, 256, MIN, MIN + 1, MIN + 7, MAX, MAX - 1}) {
            check.due("at(0, " + what + ")", x.at(0, what), -1);
        }
    }

    private static void promise10NoSuchTile() {
        check.promise(10, "IndexOutOfBounds: there is no such tile");
        Counted x = new Counted(50, 2);
        for (int what : new int[] {0, 7, 8, -1}) {
            check.indexOut("without tiles", () -> x.at(0, what));
            check.indexOut("without tiles", () -> x.at(-1, what));
        }
        Made.fill(x, 40, 0);
        check.at(x, 0, 0, 0, 1, 1, 0, 0, 1, 1);
        check.at(x, 39, 39, 0, 1, 1, 0, 0, 1, 1);
        for (int tile : new int[] {-1, -40, 40, 41, 256, MIN, MIN + 39, MAX}) {
            for (int what : new int[] {0, 7, 8, -1}) {
                check.indexOut("at(" + tile + ", " + what + ")", () -> x.at(tile, what));
            }
        }
        x.crop(0, 0, 39, 2);
        check.indexOut("a tile that went", () -> x.at(39, 0));
        x.swap();
        check.indexOut("the other one's tile", () -> x.at(0, 0));
    }

    private static void promise10ChangesNothing() {
        check.promise(10, "A call that throws changes nothing");
        Everything.unchanged(check, Made::rich, "at(0, 0)", x -> x.at(0, 0), "6");
        Everything.unchanged(check, Made::rich, "at(0, 8)", x -> x.at(0, 8), "-1");
        Everything.unchanged(check, Made::rich, "at(3, 0)", x -> x.at(3, 0), Check.INDEX);
    }

    private static void promise11NoneAndTwelve() {
        check.promise(11, "Byte i of a tile");
        Counted x = new Counted(5, 5);
        x.tile(0, 0, 1, 1);
        x.tile(1, 0, 1, 1);
        check.indexOut("of none", () -> x.byteAt(0, 0));
        for (int i = 0; i < 12; i++) {
            int next = i;
            check.indexOut("the next one", () -> x.byteAt(1, next));
            x.byteOf(1, 255 - 23 * i);
            check.due("the last one", x.byteAt(1, i), 255 - 23 * i);
            check.due("the first one", x.byteAt(1, 0), 255);
        }
        check.indexOut("byte 12", () -> x.byteAt(1, 12));
        check.indexOut("still none of tile 0", () -> x.byteAt(0, 0));
    }

    private static void promise11NoSuchTileOrByte() {
        check.promise(11, "IndexOutOfBounds: there is no such tile, byte");
        Counted x = new Counted(5, 5);
        check.indexOut("without tiles", () -> x.byteAt(0, 0));
        x.tile(0, 0, 1, 1);
        Made.bytes(x, 0, 12);
        for (int k : new int[] {-1, -12, 12, 13, 40, 256, MIN, MIN + 1, MAX}) {
            check.indexOut("no such byte", () -> x.byteAt(0, k));
            check.indexOut("no such tile", () -> x.byteAt(k, 0));
            check.indexOut("neither", () -> x.byteAt(k, k));
        }
        check.indexOut("tile 1", () -> x.byteAt(1, 0));
        x.swap();
        check.indexOut("the other one's byte", () -> x.byteAt(0, 0));
        x.tile(0, 0, 1, 1);
        x.byteOf(0, 1);
        check.indexOut("byte 1 of a tile with one", () -> x.byteAt(0, 1));
        x.clear();
        x.tile(0, 0, 1, 1);
        check.indexOut("a tile after clear() has none", () -> x.byteAt(0, 0));
    }

    private static void promise11ChangesNothing() {
        check.promise(11, "A call that throws changes nothing");
        Everything.unchanged(check, Made::rich, "byteAt(0, 1)", x -> x.byteAt(0, 1), "255");
        Everything.unchanged(check, Made::rich, "byteAt(0, 2)", x -> x.byteAt(0, 2), Check.INDEX);
        Everything.unchanged(check, Made::rich, "byteAt(3, 0)", x -> x.byteAt(3, 0), Check.INDEX);
    }

    private static void promise12LeastAndGreatest() {
        check.promise(12, "4096 times the tile, 64 times the y and the x of its OWN sample");
        Counted x = new Counted(200, 200);
        Made.fill(x, 39, 0);
        x.tile(136, 136, 64, 64);
        check.due("the least", x.shown(0, 0), 0);
        check.due("tile 38", x.shown(38, 0), 4096 * 38);
        check.due("the first sample of tile 39", x.shown(136, 136), 4096 * 39);
        check.due("the last of its first row", x.shown(199, 136), 4096 * 39 + 63);
        check.due("the first of its last row", x.shown(136, 199), 4096 * 39 + 64 * 63);
        check.due("the greatest", x.shown(199, 199), 4096 * 40 - 1);
        x.turn(2);
        check.due("the greatest, turned", x.shown(0, 0), 4096 * 40 - 1);
        check.due("the least, turned", x.shown(199, 199), 0);
        Counted narrow = new Counted(64, 64);
        narrow.tile(10, 0, 1, 64);
        check.due("the last of a narrow one", narrow.shown(10, 63), 64 * 63);
        narrow.turn(1);
        check.due("turned", narrow.shown(0, 10), 64 * 63);
    }

    private static void promise12NoTileThere() {
        check.promise(12, "NONE if no tile is there");
        Counted x = new Counted(7, 6);
        x.tile(2, 1, 3, 2);
        for (int i = 0; i < 42; i++) {
            int col = i % 7;
            int row = i / 7;
            boolean there = col >= 2 && col < 5 && row >= 1 && row < 3;
            check.due("shown(" + col + ", " + row + ")", x.shown(col, row),
                    there ? 64 * (row - 1) + col - 2 : -1);
        }
        x.swap();
        check.due("the other one's tile is not there", x.shown(2, 1), -1);
    }

    private static void promise12NoSuchSample() {
        check.promise(12, "IndexOutOfBounds: there is no such sample");
        Counted x = new Counted(7, 6);
        x.tile(0, 0, 7, 6);
        int[][] outside = {{-1, 0}, {0, -1}, {7, 0}, {0, 6}, {6, 6}, {7, 5}, {7, 6}, {-1, -1}, {MIN, 0}, {0, MIN},
            {MAX, 0}, {0, MAX}, {MAX, MAX}, {MIN, MIN}, {MAX, MIN}, {256, 0}, {0, 256}};
        for (int[] o : outside) {
            check.indexOut("shown(" + o[0] + ", " + o[1] + ")", () -> x.shown(o[0], o[1]));
        }
        check.due("the last sample", x.shown(6, 5), 64 * 5 + 6);
        x.turn(3);
        check.indexOut("as it was before the turn", () -> x.shown(6, 5));
        check.due("the last sample now", x.shown(5, 6), 64 * 5);
        Counted wide = new Counted(200, 1);
        wide.join(2);
        check.due("the last of 400", wide.shown(399, 0), -1);
        check.indexOut("one beyond 400", () -> wide.shown(400, 0));
    }

    private static void promise12ChangesNothing() {
        check.promise(12, "A call that throws changes nothing");
        Everything.unchanged(check, Made::rich, "shown(0, 0)", x -> x.shown(0, 0), "-1");
        Everything.unchanged(check, Made::rich, "shown(9, 0)", x -> x.shown(9, 0), Check.INDEX);
        Everything.unchanged(check, Made::rich, "shown(0, MIN)", x -> x.shown(0, MIN), Check.INDEX);
    }

    private static void promise13EveryWhat() {
        check.promise(13, "NONE for another what");
        Counted x = new Counted(9, 8);
        x.note(8, 7, 255);
        x.note(0, 0, 0);
        check.note(x, 0, 8, 7, 255);
        check.note(x, 1, 0, 0, 0);
        for (int what : new int[] {-1, -3, 3, 4, 256, MIN, MIN + 2, MAX}) {
            check.due("noteAt(0, " + what + ")", x.noteAt(0, what), -1);
        }
    }

    private static void promise13NoSuchNote() {
        check.promise(13, "IndexOutOfBounds: there is no such note");
        Counted x = new Counted(50, 2);
        for (int what : new int[] {0, 2, 3, -1}) {
            check.indexOut("without notes", () -> x.noteAt(0, what));
            check.indexOut("without notes", () -> x.noteAt(-1, what));
        }
        Made.fill(x, 0, 20);
        check.note(x, 0, 0, 0, 0);
        check.note(x, 19, 19, 0, 19);
        for (int k : new int[] {-1, -20, 20, 21, 40, 256, MIN, MIN + 19, MAX}) {
            for (int what : new int[] {0, 2, 3, -1}) {
                check.indexOut("noteAt(" + k + ", " + what + ")", () -> x.noteAt(k, what));
            }
        }
        x.crop(0, 0, 19, 2);
        check.indexOut("a note that went", () -> x.noteAt(19, 0));
        x.swap();
        check.indexOut("the other one's note", () -> x.noteAt(0, 0));
    }

    private static void promise13ChangesNothing() {
        check.promise(13, "A call that throws changes nothing");
        Everything.unchanged(check, Made::rich, "noteAt(0, 2)", x -> x.noteAt(0, 2), "255");
        Everything.unchanged(check, Made::rich, "noteAt(0, 3)", x -> x.noteAt(0, 3), "-1");
        Everything.unchanged(check, Made::rich, "noteAt(2, 0)", x -> x.noteAt(2, 0), Check.INDEX);
    }

    private static int answer(Map<String, String> answers, String call) {
        return Integer.parseInt(answers.get(call));
    }

    private static void number(List<Integer> to, int n) {
        to.add(n % 256);
        to.add(n / 256);
    }

    private static List<Integer> partOf(Map<String, String> answers, int tile) {
        List<Integer> part = new ArrayList<>();
        for (int what = 0; what < 4; what++) {
            number(part, answer(answers, "at(" + tile + ", " + what + ")"));
        }
        part.add(answer(answers, "at(" + tile + ", 4)"));
        int bytes = answer(answers, "at(" + tile + ", 5)");
        part.add(bytes);
        for (int i = 0; i < bytes; i++) {
            part.add(answer(answers, "byteAt(" + tile + ", " + i + ")"));
        }
        long sum = 1;
        for (int b : part) {
            sum = (sum * 31 + b) % 65521;
        }
        number(part, (int) sum);
        return part;
    }

    /** The stream by the terms, made of what the other calls answer. */
    private static List<Integer> streamOf(Map<String, String> answers) {
        int tiles = answer(answers, "told(2)");
        int notes = answer(answers, "told(3)");
        List<Integer> order = new ArrayList<>();
        for (int i = 0; i < tiles; i++) {
            order.add(i);
        }
        order.sort(Comparator.<Integer>comparingInt(t -> answer(answers, "at(" + t + ", 1)"))
                .thenComparingInt(t -> answer(answers, "at(" + t + ", 0)")));
        int[] pointers = new int[tiles];
        List<Integer> parts = new ArrayList<>();
        for (int tile : order) {
            pointers[tile] = 8 + 2 * tiles + 5 * notes + parts.size();
            parts.addAll(partOf(answers, tile));
        }
        List<Integer> all = new ArrayList<>(List.of(76, 70));
        number(all, answer(answers, "told(0)"));
        number(all, answer(answers, "told(1)"));
        all.add(tiles);
        for (int p : pointers) {
            number(all, p);
        }
        all.add(notes);
        for (int k = 0; k < notes; k++) {
            number(all, answer(answers, "noteAt(" + k + ", 0)"));
            number(all, answer(answers, "noteAt(" + k + ", 1)"));
            all.add(answer(answers, "noteAt(" + k + ", 2)"));
        }
        all.addAll(parts);
        return all;
    }

    /** The stream that is written, and each pointer, are those of the terms. */
    private static void streamIsDue(String of, Supplier<Counted> maker) {
        Map<String, String> answers = Everything.of(maker);
        List<Integer> due = streamOf(answers);
        check.due(of + ": write()", maker.get().write(), due.size());
        check.due(of + ": told(4)", answer(answers, "write() and told(4)"), due.size());
        for (int i = 0; i < due.size(); i++) {
            check.due(of + ": streamAt(" + i + ")", answer(answers, "write() and streamAt(" + i + ")"), due.get(i));
        }
        check.due(of + ": behind the end", answers.get("write() and streamAt(" + due.size() + ")"), Check.INDEX);
        for (int tile = 0; tile < answer(answers, "told(2)"); tile++) {
            check.due(of + ": pointer(" + tile + ")", answer(answers, "pointer(" + tile + ")"),
                    due.get(7 + 2 * tile) + 256 * due.get(8 + 2 * tile));
        }
    }

    private static void promise14EveryObject() {
        check.promise(14, "The STREAM of THIS one is written: how many bytes");
        for (int i = 0; i < OBJECTS.size(); i++) {
            Supplier<Counted> maker = OBJECTS.get(i);
            streamIsDue("object " + i, maker);
            streamIsDue("object " + i + " swapped", () -> {
                Counted x = maker.get();
                x.swap();
                return x;
            });
        }
    }

    private static void bytesAre(Counted x, int... due) {
        for (int i = 0; i < due.length; i++) {
            check.due("streamAt(" + i + ")", x.streamAt(i), due[i]);
        }
        check.indexOut("streamAt(" + due.length + ")", () -> x.streamAt(due.length));
    }

    private static void promise14NoTilesNoNotes() {
        check.promise(14, "the bytes 76, 70; width and height; how many TILES there are, a byte; how many NOTES");
        Counted x = new Counted(1, 200);
        check.due("write", x.write(), 8);
        bytesAre(x, 76, 70, 1, 0, 200, 0, 0, 0);
        Counted note = new Counted(3, 2);
        note.note(2, 1, 255);
        check.due("write with a note alone", note.write(), 13);
        bytesAre(note, 76, 70, 3, 0, 2, 0, 0, 1, 2, 0, 1, 0, 255);
        Counted tile = new Counted(3, 2);
        tile.tile(1, 0, 2, 1);
        check.due("write with a tile alone", tile.write(), 22);
        int sum = sumOf(1, 0, 0, 0, 2, 0, 1, 0, 0, 0);
        bytesAre(tile, 76, 70, 3, 0, 2, 0, 1, 10, 0, 0, 1, 0, 0, 0, 2, 0, 1, 0, 0, 0, sum % 256, sum / 256);
    }

    private static int sumOf(int... bytes) {
        long sum = 1;
        for (int b : bytes) {
            sum = (sum * 31 + b) % 65521;
        }
        return (int) sum;
    }

    private static void promise14NumbersOfTwoBytes() {
        check.promise(14, "Numbers but those told to be bytes take two bytes, the lower one first");
        for (int size : new int[] {201, 255, 256, 257, 399, 400}) {
            for (boolean wide : new boolean[] {true, false}) {
                Counted x = wide ? new Counted(200, 1) : new Counted(1, 200);
                x.join(wide ? 0 : 1);
                x.crop(0, 0, wide ? size : 1, wide ? 1 : size);
                int last = size - 1;
                x.tile(wide ? last : 0, wide ? 0 : last, 1, 1);
                x.note(wide ? last : 0, wide ? 0 : last, 9);
                check.due("write", x.write(), 27);
                int across = wide ? 2 : 4;
                check.due("size, lower byte", x.streamAt(across), size % 256);
                check.due("size, higher byte", x.streamAt(across + 1), size / 256);
                check.due("size the other way", x.streamAt(6 - across) + 256 * x.streamAt(7 - across), 1);
                for (int place : new int[] {10, 15}) {
                    int at = place + (wide ? 0 : 2);
                    check.due("place, lower byte", x.streamAt(at), last % 256);
                    check.due("place, higher byte", x.streamAt(at + 1), last / 256);
                    int back = place + (wide ? 2 : 0);
                    check.due("place the other way", x.streamAt(back) + 256 * x.streamAt(back + 1), 0);
                }
            }
        }
    }

    private static void promise14PartsByYThenX() {
        check.promise(14, "then the PARTS of all TILES by y, then x of their first samples");
        int[][] places = {{5, 5}, {0, 5}, {9, 0}, {0, 9}, {9, 5}, {4, 4}, {5, 6}, {6, 4}};
        int[] due = {2, 5, 7, 1, 0, 4, 6, 3};
        Counted x = new Counted(10, 10);
        for (int i = 0; i < places.length; i++) {
            x.tile(places[i][0], places[i][1], 1, 1);
        }
        check.due("write", x.write(), 8 + 16 + 8 * 12);
        for (int i = 0; i < due.length; i++) {
            int part = 24 + 12 * i;
            check.due("x of part " + i, x.streamAt(part), places[due[i]][0]);
            check.due("y of part " + i, x.streamAt(part + 2), places[due[i]][1]);
            int pointer = 7 + 2 * due[i];
            check.due("pointer to part " + i, x.streamAt(pointer) + 256 * x.streamAt(pointer + 1), part);
            check.due("pointer(" + due[i] + ")", x.pointer(due[i]), part);
        }
        // A tall tile comes by its first sample, not by its last.
        Counted tall = new Counted(10, 10);
        tall.tile(3, 2, 1, 1);
        tall.tile(4, 1, 1, 9);
        check.due("a tall tile", tall.pointer(1), 12);
        check.due("behind it", tall.pointer(0), 24);
    }

    /** As many tiles and notes as there may be, and as many bytes as the calls of one object leave. */
    private static Counted greatest() {
        Counted x = new Counted(200, 200);
        for (int i = 0; i < 40; i++) {
            x.tile(199 - 2 * i, (7 * i) % 40, 1 + i % 2, 1);
        }
        for (int i = 0; i < 20; i++) {
            x.note(10 * i, 199 - i, 255 - i);
        }
        int tile = 0;
        while (x.callsLeft() > 16) {
            x.byteOf(tile / 12, 255 - tile % 7);
            tile++;
        }
        return x;
    }

    private static void promise14AsMuchAsThereMayBe() {
        check.promise(14, "how many TILES there are, a byte; how many NOTES, a byte; its POINTER");
        Counted x = new Counted(200, 200);
        Made.fill(x, 40, 20);
        Made.bytes(x, 0, 12);
        check.due("write", x.write(), 8 + 80 + 100 + 40 * 12 + 12);
        check.due("tiles", x.streamAt(6), 40);
        check.due("notes", x.streamAt(87), 20);
        check.due("the first pointer", x.streamAt(7) + 256 * x.streamAt(8), 188);
        check.due("the last pointer", x.streamAt(85) + 256 * x.streamAt(86), 188 + 12 + 39 * 12);
        streamIsDue("the greatest stream", AskingBoundsTest::greatest);
        streamIsDue("the greatest stream, turned", () -> {
            Counted y = greatest();
            y.turn(5);
            return y;
        });
    }

    private static void promise14EveryWay() {
        check.promise(14, "a byte with the WAY, one with how many BYTES there are, these, and a SUM");
        for (int way = 0; way < 8; way++) {
            int w = way;
            streamIsDue("way " + way, () -> {
                Counted x = new Counted(9, 7);
                x.tile(1, 2, 3, 2);
                x.tile(4, 2, 2, 4);
                x.tile(0, 0, 1, 1);
                Made.bytes(x, 1, w);
                Made.bytes(x, 0, 12);
                x.note(8, 6, w);
                x.turn(w);
                return x;
            });
        }
        for (int bytes = 0; bytes <= 12; bytes++) {
            Counted x = new Counted(9, 7);
            x.tile(0, 0, 1, 1);
            Made.bytes(x, 0, bytes);
            check.due("write with " + bytes + " bytes", x.write(), 22 + bytes);
            check.due("how many there are", x.streamAt(19), bytes);
        }
    }

    /** Three bytes of a tile of one sample at the first place, so that the sum is the one wanted. */
    private static int[] bytesForSum(int wanted) {
        int head = sumOf(0, 0, 0, 0, 1, 0, 1, 0, 0, 3);
        for (int i = 0; i < 1 << 24; i++) {
            int[] b = {i >> 16, (i >> 8) & 255, i & 255};
            long sum = ((head * 31L + b[0]) * 31 + b[1]) * 31 + b[2];
            if (sum % 65521 == wanted) {
                return b;
            }
        }
        throw new AssertionError("no such bytes");
    }

    private static void promise14Sum() {
        check.promise(14, "at first 1; times 31, and the byte more, modulo 65521");
        for (int sum : new int[] {0, 1, 255, 256, 32767, 32768, 65519, 65520}) {
            Counted x = new Counted(1, 1);
            x.tile(0, 0, 1, 1);
            for (int b : bytesForSum(sum)) {
                x.byteOf(0, b);
            }
            check.due("write", x.write(), 25);
            check.due("sum " + sum + ", lower byte", x.streamAt(23), sum % 256);
            check.due("sum " + sum + ", higher byte", x.streamAt(24), sum / 256);
        }
    }

    private static void promise14OfThisOneAsItIs() {
        check.promise(14, "The STREAM of THIS one is written");
        Counted x = new Counted(4, 3);
        check.due("empty", x.write(), 8);
        x.tile(0, 0, 1, 1);
        check.due("a tile", x.write(), 22);
        x.byteOf(0, 1);
        check.due("a byte", x.write(), 23);
        x.note(0, 0, 1);
        check.due("a note", x.write(), 28);
        x.swap();
        check.due("the other one", x.write(), 8);
        x.swap();
        check.due("the first one again", x.write(), 28);
        x.crop(1, 1, 3, 2);
        check.due("cropped", x.write(), 8);
        bytesAre(x, 76, 70, 3, 0, 2, 0, 0, 0);
        for (Supplier<Counted> maker : OBJECTS) {
            Map<String, String> before = Everything.of(maker);
            Map<String, String> after = Everything.of(() -> {
                Counted y = maker.get();
                y.write();
                return y;
            });
            for (Map<String, String> m : List.of(before, after)) {
                m.keySet().removeIf(call -> call.equals("told(4)") || call.startsWith("streamAt"));
            }
            Everything.compare(check, "write() changes the stream alone", after, before);
        }
    }

    private static void promise15NoSuchByte() {
        check.promise(15, "IndexOutOfBounds: there is no such byte");
        Counted x = new Counted(4, 3);
        for (int i : new int[] {0, -1, 1, 7, 8, MIN, MAX}) {
            check.indexOut("before any is written", () -> x.streamAt(i));
        }
        x.write();
        check.due("the first byte", x.streamAt(0), 76);
        check.due("the last byte", x.streamAt(7), 0);
        for (int i : new int[] {-1, -8, 8, 9, 256, 1147, 1148, MIN, MIN + 7, MAX}) {
            check.indexOut("streamAt(" + i + ")", () -> x.streamAt(i));
        }
        x.clear();
        check.indexOut("after clear()", () -> x.streamAt(0));
    }

    private static void promise15TheLatest() {
        check.promise(15, "A byte of the STREAM that was written latest");
        Map<String, String> before = Everything.of(Made::rich);
        List<ToIntFunction<Counted>> changes = List.of(x -> x.tile(3, 9, 1, 1), x -> x.byteOf(0, 1),
                x -> x.note(0, 0, 1), x -> x.crop(0, 0, 1, 1), x -> x.crop(0, 4, 9, 3), x -> x.turn(5), Counted::swap,
                x -> x.join(0), x -> x.join(3));
        for (int i = 0; i < changes.size(); i++) {
            ToIntFunction<Counted> change = changes.get(i);
            Counted x = Made.rich();
            change.applyAsInt(x);
            check.due("length after change " + i, x.told(4), 28);
            for (int k = 0; k < 28; k++) {
                String call = "streamAt(" + k + ")";
                check.due(call + " after change " + i, x.streamAt(k), answer(before, call));
            }
            check.indexOut("behind it", () -> x.streamAt(28));
        }
        Counted x = Made.rich();
        check.due("a longer one", x.write(), 63);
        check.due("its width", x.streamAt(2), 9);
        check.due("its last byte is there", String.valueOf(x.streamAt(62) >= 0), "true");
        check.indexOut("behind it", () -> x.streamAt(63));
        check.due("crop to a note", x.crop(0, 7, 9, 5), 0);
        check.due("a shorter one", x.write(), 8 + 5);
        check.indexOut("what the longer one had", () -> x.streamAt(13));
        check.indexOut("what the longer one had", () -> x.streamAt(62));
    }

    private static void promise15ChangesNothing() {
        check.promise(15, "A call that throws changes nothing");
        Everything.unchanged(check, Made::rich, "streamAt(0)", x -> x.streamAt(0), "76");
        Everything.unchanged(check, Made::rich, "streamAt(28)", x -> x.streamAt(28), Check.INDEX);
        Everything.unchanged(check, Made::rich, "streamAt(-1)", x -> x.streamAt(-1), Check.INDEX);
        Everything.unchanged(check, Made::full, "streamAt(0)", x -> x.streamAt(0), Check.INDEX);
    }

    private static void promise16NoSuchTile() {
        check.promise(16, "IndexOutOfBounds: there is no such tile");
        Counted x = new Counted(50, 2);
        for (int tile : new int[] {0, -1, 1, MIN, MAX}) {
            check.indexOut("without tiles", () -> x.pointer(tile));
        }
        Made.fill(x, 40, 0);
        x.write();
        for (int tile : new int[] {-1, -40, 40, 41, 256, MIN, MIN + 39, MAX}) {
            check.indexOut("pointer(" + tile + ")", () -> x.pointer(tile));
        }
        x.crop(0, 0, 39, 2);
        check.indexOut("a tile that went", () -> x.pointer(39));
        x.swap();
        check.indexOut("the other one's tile", () -> x.pointer(0));
    }

    private static void promise16FirstAndLast() {
        check.promise(16, "The POINTER of a tile");
        Counted one = new Counted(1, 1);
        one.tile(0, 0, 1, 1);
        check.due("the least", one.pointer(0), 10);
        Counted x = new Counted(50, 2);
        Made.fill(x, 40, 20);
        for (int i = 0; i < 40; i++) {
            check.due("pointer(" + i + ")", x.pointer(i), 188 + 12 * i);
        }
        x.turn(4);
        for (int i = 0; i < 40; i++) {
            check.due("mirrored, pointer(" + i + ")", x.pointer(i), 188 + 12 * (39 - i));
        }
        Made.bytes(x, 39, 12);
        check.due("of the first part", x.pointer(39), 188);
        check.due("of the last part, bytes before it", x.pointer(0), 188 + 12 * 40);
        check.due("nothing is written by it", x.told(4), 0);
    }

    private static void promise16AsItIsNow() {
        check.promise(16, "in a STREAM of THIS one as it is now");
        Counted x = new Counted(6, 5);
        x.tile(2, 3, 1, 1);
        x.write();
        check.due("pointer(0)", x.pointer(0), 10);
        x.note(0, 0, 1);
        check.due("a note more", x.pointer(0), 15);
        x.tile(5, 3, 1, 1);
        check.due("a tile behind it more", x.pointer(0), 17);
        check.due("its pointer", x.pointer(1), 29);
        x.byteOf(1, 1);
        check.due("a byte behind it more", x.pointer(0), 17);
        x.byteOf(0, 1);
        check.due("a byte of its own more", x.pointer(0), 17);
        check.due("and one before the other tile", x.pointer(1), 30);
        x.turn(2);
        check.due("turned, it comes last", x.pointer(0), 30);
        check.due("and the other first", x.pointer(1), 17);
        x.join(3);
        check.due("joined", x.pointer(0), 30);
        x.crop(1, 0, 5, 5);
        check.due("cropped, it is alone, and so is the note", x.pointer(0), 15);
        check.due("the stream that was written", x.streamAt(7), 10);
    }

    private static void promise16ChangesNothing() {
        check.promise(16, "A call that throws changes nothing");
        Everything.unchanged(check, Made::rich, "pointer(0)", x -> x.pointer(0), "24");
        Everything.unchanged(check, Made::rich, "pointer(3)", x -> x.pointer(3), Check.INDEX);
        Everything.unchanged(check, Made::rich, "pointer(-1)", x -> x.pointer(-1), Check.INDEX);
    }

    private static void promise17EveryWhat() {
        check.promise(17, "NONE for another what");
        Counted x = new Counted(5, 4);
        Made.fill(x, 2, 3);
        x.turn(1);
        x.swap();
        Made.fill(x, 1, 4);
        x.crop(0, 0, 5, 3);
        x.write();
        check.told(x, 5, 3, 1, 4, 8 + 2 + 20 + 12, 4, 5, 2, 3);
        for (int what : new int[] {-1, -2, -9, 9, 10, 256, MIN, MIN + 1, MIN + 8, MAX}) {
            check.due("told(" + what + ")", x.told(what), -1);
        }
    }

    private static void promise17BytesOfTheStream() {
        check.promise(17, "bytes of the STREAM that was written latest (4)");
        Counted x = new Counted(5, 4);
        check.due("none is written", x.told(4), 0);
        Made.fill(x, 3, 2);
        check.due("none is written yet", x.told(4), 0);
        check.due("write", x.write(), 8 + 6 + 10 + 36);
        check.due("one is written", x.told(4), 60);
        x.tile(0, 1, 1, 1);
        x.swap();
        check.due("it stays", x.told(4), 60);
        check.due("write of the other one", x.write(), 8);
        check.due("a shorter one is written", x.told(4), 8);
        x.clear();
        check.due("after clear()", x.told(4), 0);
    }

    private static void promise17ChangesNothing() {
        check.promise(17, "told");
        for (int what : new int[] {0, 8, 9, -1}) {
            String due = what == 0 ? "9" : what == 8 ? "1" : "-1";
            Everything.unchanged(check, Made::rich, "told(" + what + ")", x -> x.told(what), due);
        }
    }

    private static void promise18AsAtFirst() {
        check.promise(18, "Both PICTURES are as at first, nothing is written");
        List<int[]> sizes = List.of(new int[] {1, 1}, new int[] {200, 200}, new int[] {12, 9}, new int[] {12, 9},
                new int[] {50, 2}, new int[] {9, 7}, new int[] {200, 3}, new int[] {3, 200});
        for (int i = 0; i < sizes.size(); i++) {
            Supplier<Counted> maker = OBJECTS.get(i);
            int[] size = sizes.get(i);
            Map<String, String> first = Everything.of(() -> new Counted(size[0], size[1]));
            Everything.compare(check, "clear() of object " + i, Everything.of(() -> cleared(maker.get())), first);
            Everything.compare(check, "clear() twice", Everything.of(() -> cleared(cleared(maker.get()))), first);
        }
        check.told(cleared(new Counted(MAX, MIN)), 200, 1, 0, 0, 0, 200, 1, 0, 0);
    }

    private static Counted cleared(Counted x) {
        x.turn(3);
        x.write();
        x.clear();
        return x;
    }

    private static void promise18AllTheRoomAgain() {
        check.promise(18, "Both PICTURES are as at first");
        Supplier<Counted> anew = () -> cleared(Made.full());
        for (int picture = 0; picture < 2; picture++) {
            Counted x = anew.get();
            for (int i = 0; i < picture; i++) {
                x.swap();
            }
            for (int i = 0; i < 40; i++) {
                check.due("tile", x.tile(i, 0, 1, 1), i);
                check.at(x, i, i, 0, 1, 1, 0, 0);
            }
            check.noRoom("tile 41", () -> x.tile(40, 0, 1, 1));
            for (int i = 0; i < 20; i++) {
                check.due("note", x.note(i, 1, i), i + 1);
            }
            check.noRoom("note 21", () -> x.note(0, 0, 0));
        }
        Counted x = anew.get();
        x.tile(0, 0, 1, 1);
        for (int i = 0; i < 12; i++) {
            check.due("byteOf", x.byteOf(0, i), i + 1);
        }
        check.due("join", x.join(1), 1);
        check.told(x, 50, 4, 1, 0, 0, 50, 2, 0, 0);
    }
}
