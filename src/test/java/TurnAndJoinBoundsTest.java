import java.util.Map;
import java.util.function.Supplier;

/** Promises 7 to 9 at their bounds: turn, swap and join. */
public final class TurnAndJoinBoundsTest {
    private static final int MIN = Integer.MIN_VALUE;
    private static final int MAX = Integer.MAX_VALUE;
    /** What each way does to the picture of 3 times 2 samples a b c over d e f, drawn by hand. */
    private static final String[][] DRAWN = {
        {"abc", "def"}, {"da", "eb", "fc"}, {"fed", "cba"}, {"cf", "be", "ad"},
        {"cba", "fed"}, {"fc", "eb", "da"}, {"def", "abc"}, {"ad", "be", "cf"}};
    private static final Check check = new Check();

    public static void main(String[] args) {
        promise7EveryWayByHand();
        promise7NotesAndWidthAndHeight();
        promise7LeastAndGreatestPicture();
        promise7LongestTile();
        promise7NoSuchWay();
        promise7EveryTwoWays();
        promise7ThereAndBack();
        promise7TheOtherIsNotTurned();
        promise7SinceItWasMade();
        promise7CropChangesNothingOfIt();
        promise7SinceItWasJoinedOrSwapped();
        promise7ToTheLastCall();
        promise7ChangesNothing();
        promise8NoneAndForty();
        promise8TwiceIsNothing();
        promise8WayIsZero();
        promise8AllOfBothChangesPlaces();
        promise9EachSide();
        promise9OfNothing();
        promise9NotAlikeByOne();
        promise9OnlyTheSidesThatMeet();
        promise9FourHundred();
        promise9GreatestPicture();
        promise9FortyTiles();
        promise9TwentyNotes();
        promise9OtherIsEmptyThen();
        promise9WhatIsInThemStays();
        promise9WayIsZero();
        promise9NoSuchSide();
        promise9FirstException();
        promise9ChangesNothing();
        check.end();
    }

    private static void promise7EveryWayByHand() {
        check.promise(7, "THIS one is shown by a WAY: tiles, their WAYS");
        for (int way = 0; way < 8; way++) {
            Counted whole = new Counted(3, 2);
            whole.tile(0, 0, 3, 2);
            Counted single = new Counted(3, 2);
            for (int i = 0; i < 6; i++) {
                single.tile(i % 3, i / 3, 1, 1);
            }
            check.due("turn(" + way + ")", whole.turn(way), way);
            check.due("turn(" + way + ")", single.turn(way), way);
            String[] rows = DRAWN[way];
            check.at(whole, 0, 0, 0, rows[0].length(), rows.length, way, 0, 3, 2);
            for (int y = 0; y < rows.length; y++) {
                for (int x = 0; x < rows[y].length(); x++) {
                    int sample = rows[y].charAt(x) - 'a';
                    check.due("way " + way + " of a tile", whole.shown(x, y), 64 * (sample / 3) + sample % 3);
                    check.due("way " + way + " of tiles", single.shown(x, y), 4096 * sample);
                    check.at(single, sample, x, y, 1, 1, way, 0, 1, 1);
                }
            }
        }
    }

    private static void promise7NotesAndWidthAndHeight() {
        check.promise(7, "notes, width and height are as they must be");
        for (int way = 0; way < 8; way++) {
            Counted x = new Counted(3, 2);
            for (int i = 0; i < 6; i++) {
                x.note(i % 3, i / 3, 200 + i);
            }
            x.turn(way);
            String[] rows = DRAWN[way];
            check.told(x, rows[0].length(), rows.length, 0, 6, 0, 3, 2, 0, 0);
            for (int i = 0; i < 6; i++) {
                String row = rows[rowOf(rows, (char) ('a' + i))];
                check.note(x, i, row.indexOf('a' + i), rowOf(rows, (char) ('a' + i)), 200 + i);
            }
        }
    }

    private static int rowOf(String[] rows, char sample) {
        for (int y = 0; y < rows.length; y++) {
            if (rows[y].indexOf(sample) >= 0) {
                return y;
            }
        }
        throw new AssertionError("no such sample");
    }

    private static void promise7LeastAndGreatestPicture() {
        check.promise(7, "width and height are as they must be");
        for (int way = 0; way < 8; way++) {
            boolean lies = way % 2 == 1;
            Counted least = new Counted(1, 1);
            least.tile(0, 0, 1, 1);
            least.note(0, 0, 3);
            check.due("turn", least.turn(way), way);
            check.told(least, 1, 1, 1, 1, 0, 1, 1, 0, 0);
            check.at(least, 0, 0, 0, 1, 1, way, 0, 1, 1);
            check.note(least, 0, 0, 0, 3);
            Counted longest = Made.longest(true);
            longest.note(399, 2, 5);
            longest.note(0, 0, 6);
            check.due("turn", longest.turn(way), way);
            check.told(longest, lies ? 3 : 400, lies ? 400 : 3, 1, 2, 0, 1, 3, 1, 0);
        }
        Counted x = Made.longest(true);
        x.note(399, 2, 5);
        x.turn(1);
        check.at(x, 0, 0, 336, 3, 64, 1, 0, 64, 3);
        check.note(x, 0, 0, 399, 5);
        x.turn(4);
        check.at(x, 0, 0, 336, 3, 64, 7, 0, 64, 3);
        check.note(x, 0, 2, 399, 5);
        x.turn(1);
        check.at(x, 0, 0, 0, 64, 3, 4, 0, 64, 3);
        check.note(x, 0, 0, 2, 5);
    }

    private static void promise7LongestTile() {
        check.promise(7, "whose size is its OWN one, or that the other way round");
        for (int way = 0; way < 8; way++) {
            boolean lies = way % 2 == 1;
            Counted x = new Counted(64, 64);
            x.tile(0, 0, 64, 1);
            x.tile(0, 1, 1, 63);
            x.turn(way);
            check.due("w", x.at(0, 2), lies ? 1 : 64);
            check.due("h", x.at(0, 3), lies ? 64 : 1);
            check.due("own width", x.at(0, 6), 64);
            check.due("own height", x.at(0, 7), 1);
            check.due("w", x.at(1, 2), lies ? 63 : 1);
            check.due("h", x.at(1, 3), lies ? 1 : 63);
            check.due("own width", x.at(1, 6), 1);
            check.due("own height", x.at(1, 7), 63);
            Counted large = new Counted(64, 64);
            large.tile(0, 0, 64, 64);
            large.turn(way);
            check.at(large, 0, 0, 0, 64, 64, way, 0, 64, 64);
            int[] corners = {large.shown(0, 0), large.shown(63, 0), large.shown(0, 63), large.shown(63, 63)};
            String[] rows = DRAWN[way];
            int last = rows[0].length() - 1;
            char[] drawn = {rows[0].charAt(0), rows[0].charAt(last), rows[rows.length - 1].charAt(0),
                rows[rows.length - 1].charAt(last)};
            for (int i = 0; i < 4; i++) {
                int due = drawn[i] == 'a' ? 0 : drawn[i] == 'c' ? 63 : drawn[i] == 'd' ? 63 * 64 : 63 * 64 + 63;
                check.due("way " + way + ", corner " + i, corners[i], due);
            }
        }
    }

    private static void promise7NoSuchWay() {
        check.promise(7, "IllegalArgument: it is not 0 .. 7");
        Counted x = new Counted(3, 2);
        x.tile(0, 0, 2, 1);
        for (int way : new int[] {-1, -4, -8, 8, 9, 12, 15, 16, 256, MIN, MIN + 1, MIN + 4, MAX, MAX - 3}) {
            check.argument("turn(" + way + ")", () -> x.turn(way));
        }
        check.told(x, 3, 2, 1, 0, 0, 3, 2, 0, 0);
        check.due("the least", x.turn(0), 0);
        check.due("the greatest", x.turn(7), 7);
    }

    private static String[] shownBy(String[] rows, int way) {
        String[] now = rows.clone();
        for (int i = 0; way >= 4 && i < now.length; i++) {
            now[i] = new StringBuilder(now[i]).reverse().toString();
        }
        for (int quarter = 0; quarter < way % 4; quarter++) {
            String[] next = new String[now[0].length()];
            for (int i = 0; i < next.length; i++) {
                StringBuilder row = new StringBuilder();
                for (int j = now.length - 1; j >= 0; j--) {
                    row.append(now[j].charAt(i));
                }
                next[i] = row.toString();
            }
            now = next;
        }
        return now;
    }

    private static int wayOf(String[] rows) {
        for (int way = 0; way < 8; way++) {
            if (String.join("/", DRAWN[way]).equals(String.join("/", rows))) {
                return way;
            }
        }
        throw new AssertionError("no such way");
    }

    private static void promise7EveryTwoWays() {
        check.promise(7, "the WAY of all that was done so. One WAY and then another one are one WAY together");
        for (int first = 0; first < 8; first++) {
            for (int second = 0; second < 8; second++) {
                int both = wayOf(shownBy(DRAWN[first], second));
                for (int third = 0; third < 8; third++) {
                    Counted x = new Counted(3, 2);
                    x.tile(0, 0, 3, 2);
                    check.due("turn", x.turn(first), first);
                    check.due(first + " and " + second, x.turn(second), both);
                    check.due("way of the tile", x.at(0, 4), both);
                    int all = wayOf(shownBy(DRAWN[both], third));
                    check.due(first + ", " + second + " and " + third, x.turn(third), all);
                    check.due("way of the tile", x.at(0, 4), all);
                    char sample = DRAWN[all][0].charAt(0);
                    check.due("shown", x.shown(0, 0), 64 * ((sample - 'a') / 3) + (sample - 'a') % 3);
                }
            }
        }
    }

    private static void promise7ThereAndBack() {
        check.promise(7, "THIS one is shown by a WAY");
        for (int way = 0; way < 8; way++) {
            int there = way;
            // A mirror image, whichever way it is turned, is its own way back.
            int back = way >= 4 ? way : (4 - way) % 4;
            Everything.unchanged(check, Made::richAndQuiet, "turn(" + there + ") and turn(" + back + ")",
                    x -> x.turn(there) < 0 ? -1 : x.turn(back), "1");
        }
        Everything.unchanged(check, Made::richAndQuiet, "turn(0)", x -> x.turn(0), "1");
        Everything.unchanged(check, Made::richAndQuiet, "four quarters",
                x -> x.turn(1) + 10 * x.turn(1) + 100 * x.turn(1) + 1000 * x.turn(1), "1032");
    }

    private static void promise7TheOtherIsNotTurned() {
        check.promise(7, "THIS one is shown by a WAY");
        Map<String, String> before = Everything.of(Made::rich);
        for (int way = 0; way < 8; way++) {
            int w = way;
            Map<String, String> after = Everything.of(() -> turned(Made.rich(), w));
            for (Map.Entry<String, String> e : before.entrySet()) {
                if (e.getKey().startsWith("swap()") || e.getKey().startsWith("streamAt")) {
                    check.due("after turn(" + way + ") " + e.getKey(),
                            String.valueOf(after.get(e.getKey())), e.getValue());
                }
            }
        }
    }

    private static Counted turned(Counted x, int way) {
        x.turn(way);
        return x;
    }

    private static void promise7SinceItWasMade() {
        check.promise(7, "since it was made, joined or swapped");
        Counted x = new Counted(4, 3);
        check.due("nothing was done", x.turn(0), 0);
        check.due("turn(1)", x.turn(1), 1);
        x.tile(0, 0, 1, 2);
        x.byteOf(0, 1);
        x.note(0, 0, 1);
        x.write();
        check.due("other calls change nothing of it", x.turn(1), 2);
        check.due("a tile made between has its own", x.at(0, 4), 1);
        x.clear();
        check.due("after clear()", x.turn(0), 0);
        check.due("turn(6) after clear()", x.turn(6), 6);
    }

    private static void promise7CropChangesNothingOfIt() {
        check.promise(7, "a crop() changes nothing of it");
        Counted x = new Counted(8, 7);
        x.tile(2, 2, 3, 3);
        check.due("turn(5)", x.turn(5), 5);
        check.due("crop that is done", x.crop(0, 0, 6, 6), 1);
        check.due("turn(0)", x.turn(0), 5);
        check.due("crop that is refused", x.crop(3, 0, 3, 6), -1);
        check.due("turn(0)", x.turn(0), 5);
        check.argument("crop that throws", () -> x.crop(0, 0, 0, 1));
        check.due("turn(0)", x.turn(0), 5);
        check.due("crop to no tile", x.crop(0, 0, 1, 1), 0);
        check.due("turn(1)", x.turn(1), 6);
    }

    private static void promise7SinceItWasJoinedOrSwapped() {
        check.promise(7, "since it was made, joined or swapped");
        Counted x = new Counted(4, 4);
        x.tile(0, 0, 1, 2);
        x.turn(3);
        x.swap();
        check.due("swapped", x.turn(2), 2);
        x.swap();
        check.due("swapped back", x.turn(1), 1);
        check.due("its tile has all of it", x.at(0, 4), 0);
        x.turn(7);
        check.due("join", x.join(2), 1);
        check.due("joined", x.turn(0), 0);
        check.due("its tile has its way", x.at(0, 4), 7);
        check.due("turn(5)", x.turn(5), 5);
        check.state("a join that throws", () -> x.join(0));
        check.indexOut("a join of no side", () -> x.join(4));
        check.due("changes nothing of it", x.turn(0), 5);
    }

    private static void promise7ToTheLastCall() {
        check.promise(7, "An object is used for at most 512 calls after it has been made");
        Counted x = new Counted(7, 5);
        x.tile(1, 2, 3, 2);
        x.note(6, 4, 1);
        int turns = 0;
        while (x.callsLeft() > 14) {
            turns++;
            check.due("turn " + turns, x.turn(3), 3 * turns % 4);
        }
        check.due("turns", turns, 496);
        check.at(x, 0, 1, 2, 3, 2, 0, 0, 3, 2);
        check.note(x, 0, 6, 4, 1);
        check.due("turn", x.turn(7), 7);
        check.due("shown", x.shown(2, 1), 0);
        check.due("the last call", x.write(), 8 + 2 + 5 + 12);
        check.due("calls left", x.callsLeft(), 0);
    }

    private static void promise7ChangesNothing() {
        check.promise(7, "A call that throws changes nothing");
        for (int way : new int[] {-1, 8, MIN, MAX}) {
            Everything.unchanged(check, Made::rich, "turn(" + way + ")", x -> x.turn(way), Check.ARGUMENT);
        }
    }

    private static void promise8NoneAndForty() {
        check.promise(8, "how many tiles THIS one has");
        Counted x = new Counted(50, 2);
        check.due("none", x.swap(), 0);
        Made.fill(x, 40, 20);
        check.due("none in the other one", x.swap(), 0);
        check.told(x, 50, 2, 0, 0, 0, 50, 2, 40, 20);
        x.tile(0, 0, 1, 1);
        check.due("forty", x.swap(), 40);
        check.told(x, 50, 2, 40, 20, 0, 50, 2, 1, 0);
        check.due("one", x.swap(), 1);
        check.noRoom("the full one stays full", () -> x.join(0));
    }

    private static void promise8TwiceIsNothing() {
        check.promise(8, "THIS one and the OTHER change places");
        Supplier<Counted> settled = () -> {
            Counted x = Made.rich();
            x.swap();
            x.swap();
            return x;
        };
        Map<String, String> before = Everything.butNear(Everything.of(Made::rich));
        before.put("turn(0)", "0");
        Everything.compare(check, "swap() twice", Everything.butNear(Everything.of(settled)), before);
        Everything.unchanged(check, settled, "swap() twice more", x -> x.swap() * 10 + x.swap(), "13");
    }

    private static void promise8WayIsZero() {
        check.promise(8, "Its WAY since then is 0");
        for (int way = 0; way < 8; way++) {
            Counted x = new Counted(4, 4);
            x.turn(way);
            x.swap();
            check.due("of the other one", x.turn(0), 0);
            x.turn(way);
            x.swap();
            check.due("of the first one again", x.turn(0), 0);
            check.due("and goes on from there", x.turn(3), 3);
        }
    }

    private static void promise8AllOfBothChangesPlaces() {
        check.promise(8, "THIS one and the OTHER change places");
        Counted x = new Counted(7, 5);
        x.tile(1, 2, 3, 2);
        Made.bytes(x, 0, 12);
        x.note(6, 4, 255);
        check.due("write", x.write(), 8 + 2 + 5 + 24);
        x.turn(1);
        check.due("swap", x.swap(), 0);
        check.told(x, 7, 5, 0, 0, 39, 5, 7, 1, 1);
        check.indexOut("its tile went with it", () -> x.at(0, 0));
        check.indexOut("its note too", () -> x.noteAt(0, 0));
        check.due("the stream stays", x.streamAt(38) + 256 * x.streamAt(2), x.streamAt(38) + 256 * 7);
        check.due("a sample that only this one has", x.shown(6, 4), -1);
        check.indexOut("a sample that only the other has", () -> x.shown(4, 6));
        check.due("swap back", x.swap(), 1);
        check.at(x, 0, 1, 1, 2, 3, 1, 12, 3, 2);
        check.due("byteAt(0, 11)", x.byteAt(0, 11), 111);
        check.note(x, 0, 0, 6, 255);
    }

    /** This one 3 times 2, the other w times h, each with a tile in its first sample and a note in its last. */
    private static Counted two(int w, int h) {
        Counted x = new Counted(Math.max(3, w), Math.max(2, h));
        x.crop(0, 0, w, h);
        x.tile(0, 0, 1, 1);
        x.byteOf(0, 22);
        x.note(w - 1, h - 1, 222);
        x.swap();
        x.crop(0, 0, 3, 2);
        x.tile(0, 0, 1, 1);
        x.byteOf(0, 11);
        x.note(2, 1, 111);
        return x;
    }

    private static void promise9EachSide() {
        check.promise(9, "The OTHER is put to a side of THIS one, left (0), above (1), right (2), below (3)");
        for (int size : new int[] {1, 2, 5, 197}) {
            for (int side = 0; side < 4; side++) {
                boolean beside = side % 2 == 0;
                int w = beside ? size : 3;
                int h = beside ? 2 : size;
                Counted x = two(w, h);
                check.due("join(" + side + ")", x.join(side), 2);
                check.told(x, beside ? 3 + w : 3, beside ? 2 : 2 + h, 2, 2, 0, w, h, 0, 0);
                int ourX = side == 0 ? w : 0;
                int ourY = side == 1 ? h : 0;
                int theirX = side == 2 ? 3 : 0;
                int theirY = side == 3 ? 2 : 0;
                check.at(x, 0, ourX, ourY, 1, 1, 0, 1, 1, 1);
                check.at(x, 1, theirX, theirY, 1, 1, 0, 1, 1, 1);
                check.due("byteAt(0, 0)", x.byteAt(0, 0), 11);
                check.due("byteAt(1, 0)", x.byteAt(1, 0), 22);
                check.note(x, 0, ourX + 2, ourY + 1, 111);
                check.note(x, 1, theirX + w - 1, theirY + h - 1, 222);
            }
        }
    }

    private static void promise9OfNothing() {
        check.promise(9, "how many tiles THIS one has; its tiles and notes come behind the others in their order");
        for (int side = 0; side < 4; side++) {
            Counted none = new Counted(1, 1);
            check.due("both are empty", none.join(side), 0);
            check.told(none, side % 2 == 0 ? 2 : 1, side % 2 == 0 ? 1 : 2, 0, 0, 0, 1, 1, 0, 0);
            Counted theirs = new Counted(1, 1);
            theirs.tile(0, 0, 1, 1);
            theirs.note(0, 0, 4);
            theirs.swap();
            check.due("this one is empty", theirs.join(side), 1);
            check.at(theirs, 0, side == 2 ? 1 : 0, side == 3 ? 1 : 0, 1, 1, 0, 0, 1, 1);
            check.note(theirs, 0, side == 2 ? 1 : 0, side == 3 ? 1 : 0, 4);
            Counted ours = new Counted(1, 1);
            ours.tile(0, 0, 1, 1);
            ours.note(0, 0, 4);
            check.due("the other one is empty", ours.join(side), 1);
            check.at(ours, 0, side == 0 ? 1 : 0, side == 1 ? 1 : 0, 1, 1, 0, 0, 1, 1);
            check.note(ours, 0, side == 0 ? 1 : 0, side == 1 ? 1 : 0, 4);
        }
    }

    private static void promise9NotAlikeByOne() {
        check.promise(9, "IllegalState: their heights (for sides 0, 2) or widths are not alike");
        int[][] sizes = {{3, 1}, {3, 3}, {2, 2}, {4, 2}, {2, 3}, {1, 1}, {200, 1}, {1, 200}};
        for (int[] s : sizes) {
            for (int side = 0; side < 4; side++) {
                int to = side;
                Counted x = two(s[0], s[1]);
                boolean alike = side % 2 == 0 ? s[1] == 2 : s[0] == 3;
                check.due("join(" + side + ") of " + s[0] + " times " + s[1],
                        Check.answerOf(() -> x.join(to)), alike ? "2" : Check.STATE);
                check.due("tiles", x.told(2), alike ? 2 : 1);
            }
        }
    }

    private static void promise9OnlyTheSidesThatMeet() {
        check.promise(9, "their heights (for sides 0, 2) or widths");
        for (int side = 0; side < 4; side++) {
            Counted x = two(side % 2 == 0 ? 150 : 3, side % 2 == 0 ? 2 : 150);
            check.due("join(" + side + ")", x.join(side), 2);
            Counted turned = two(side % 2 == 0 ? 2 : 150, side % 2 == 0 ? 150 : 3);
            int to = side;
            check.state("before it is turned", () -> turned.join(to));
            turned.swap();
            turned.turn(1);
            turned.swap();
            check.due("when it is turned", turned.join(side), 2);
        }
    }

    /** This one so long, the other one so long, both 2 wide the other way. */
    private static Counted twoLong(boolean wide, int here, int other) {
        Counted x = wide ? new Counted(200, 2) : new Counted(2, 200);
        x.join(wide ? 0 : 1);
        if (other > 200) {
            // To a short one the long one is joined, whose own size stays.
            cut(x, wide, other);
            x.swap();
            cut(x, wide, 400 - other);
            x.join(wide ? 0 : 1);
        } else {
            x.swap();
            cut(x, wide, other);
            x.swap();
        }
        cut(x, wide, here);
        return x;
    }

    private static void cut(Counted x, boolean wide, int size) {
        check.due("crop", x.crop(0, 0, wide ? size : 2, wide ? 2 : size), 0);
    }

    private static void promise9FourHundred() {
        check.promise(9, "UnsupportedOperation: the PICTURE would be more than 400 wide or high");
        int[][] sizes = {{399, 1}, {1, 399}, {200, 200}, {300, 100}, {201, 199}, {399, 2}, {400, 1},
            {201, 200}, {200, 201}, {2, 399}, {400, 200}, {300, 101}};
        for (boolean wide : new boolean[] {true, false}) {
            for (int[] s : sizes) {
                for (int k = 0; k < 2; k++) {
                    int side = 2 * k + (wide ? 0 : 1);
                    Counted x = twoLong(wide, s[0], s[1]);
                    boolean room = s[0] + s[1] <= 400;
                    check.due("join(" + side + ") of " + s[0] + " and " + s[1],
                            Check.answerOf(() -> x.join(side)), room ? "0" : Check.NO_ROOM);
                    check.due("size", x.told(wide ? 0 : 1), room ? s[0] + s[1] : s[0]);
                    check.due("size the other way", x.told(wide ? 1 : 0), 2);
                }
            }
            Counted greatest = Made.longest(wide);
            greatest.swap();
            check.noRoom("1 and 400", () -> greatest.join(wide ? 0 : 1));
            check.noRoom("1 and 400", () -> greatest.join(wide ? 2 : 3));
        }
    }

    private static void promise9GreatestPicture() {
        check.promise(9, "A PICTURE has a width and a height, 1 .. 400 each");
        Counted x = new Counted(200, 200);
        x.join(2);
        x.crop(0, 0, 399, 200);
        x.swap();
        x.crop(0, 0, 1, 200);
        check.due("1 and 399 wide", x.join(2), 0);
        x.crop(0, 0, 399, 200);
        check.due("twice 399 times 200", x.join(3), 0);
        check.told(x, 399, 400, 0, 0, 0, 399, 200, 0, 0);
        check.due("a tile in the last corner", x.tile(335, 336, 64, 64), 0);
        check.due("a note in the last corner", x.note(398, 399, 1), 1);
        check.due("shown in the last corner", x.shown(398, 399), 63 * 64 + 63);
        check.indexOut("one beyond", () -> x.shown(399, 399));
        check.noRoom("higher than 400", () -> x.join(1));
        check.state("not as high", () -> x.join(0));
        x.turn(1);
        check.told(x, 400, 399, 1, 1, 0, 399, 200, 0, 0);
        check.at(x, 0, 0, 335, 64, 64, 1, 0, 64, 64);
        check.note(x, 0, 0, 398, 1);
        check.due("crop to the tile", x.crop(0, 335, 64, 64), 1);
    }

    private static void promise9FortyTiles() {
        check.promise(9, "UnsupportedOperation: or have more than 40 tiles");
        int[][] tiles = {{40, 0}, {0, 40}, {39, 1}, {1, 39}, {20, 20}, {40, 1}, {1, 40}, {20, 21}, {21, 20}, {40, 40}};
        for (int[] t : tiles) {
            for (int side = 0; side < 4; side++) {
                int to = side;
                Counted x = new Counted(50, 50);
                Made.fill(x, t[1], 0);
                x.swap();
                Made.fill(x, t[0], 0);
                boolean room = t[0] + t[1] <= 40;
                check.due(t[0] + " and " + t[1] + " tiles", Check.answerOf(() -> x.join(to)),
                        room ? "40" : Check.NO_ROOM);
                check.due("tiles", x.told(2), room ? 40 : t[0]);
                check.due("tiles of the other one", x.told(7), room ? 0 : t[1]);
                for (int i = 0; room && i < 40; i++) {
                    boolean theirs = i >= t[0];
                    int first = theirs ? i - t[0] : i;
                    check.due("x", x.at(i, 0), first + (side == (theirs ? 2 : 0) ? 50 : 0));
                    check.due("y", x.at(i, 1), side == (theirs ? 3 : 1) ? 50 : 0);
                }
            }
        }
    }

    private static void promise9TwentyNotes() {
        check.promise(9, "UnsupportedOperation: or 20 notes");
        int[][] notes = {{20, 0}, {0, 20}, {19, 1}, {1, 19}, {10, 10}, {20, 1}, {1, 20}, {10, 11}, {20, 20}};
        for (int[] n : notes) {
            for (int side = 0; side < 4; side++) {
                int to = side;
                Counted x = new Counted(50, 50);
                Made.fill(x, 1, n[1]);
                x.swap();
                Made.fill(x, 2, n[0]);
                boolean room = n[0] + n[1] <= 20;
                check.due(n[0] + " and " + n[1] + " notes", Check.answerOf(() -> x.join(to)),
                        room ? "3" : Check.NO_ROOM);
                check.due("notes", x.told(3), room ? 20 : n[0]);
                check.due("notes of the other one", x.told(8), room ? 0 : n[1]);
                check.due("tiles of the other one", x.told(7), room ? 0 : 1);
                for (int i = 0; room && i < 20; i++) {
                    boolean theirs = i >= n[0];
                    int first = theirs ? i - n[0] : i;
                    check.note(x, i, first + (side == (theirs ? 2 : 0) ? 50 : 0),
                            side == (theirs ? 3 : 1) ? 50 : 0, first);
                }
            }
        }
    }

    private static void promise9OtherIsEmptyThen() {
        check.promise(9, "and is empty then (no tiles, no notes, its size stays)");
        for (int side = 0; side < 4; side++) {
            Counted x = new Counted(50, 50);
            Made.fill(x, 20, 10);
            x.swap();
            Made.fill(x, 20, 10);
            check.due("join", x.join(side), 40);
            check.due("swap", x.swap(), 0);
            check.told(x, 50, 50, 0, 0, 0, side % 2 == 0 ? 100 : 50, side % 2 == 0 ? 50 : 100, 40, 20);
            check.indexOut("at(0, 0)", () -> x.at(0, 0));
            check.indexOut("noteAt(0, 0)", () -> x.noteAt(0, 0));
            check.due("shown", x.shown(0, 0), -1);
            Made.fill(x, 40, 20);
            check.told(x, 50, 50, 40, 20, 0, side % 2 == 0 ? 100 : 50, side % 2 == 0 ? 50 : 100, 40, 20);
            check.at(x, 39, 39, 0, 1, 1, 0, 0, 1, 1);
            check.note(x, 19, 19, 0, 19);
            x.swap();
            for (int i = 0; i < 40; i++) {
                int at = i >= 20 ? 2 : 0;
                check.due("x of tile " + i, x.at(i, 0), i % 20 + (side == at ? 50 : 0));
                check.due("y of tile " + i, x.at(i, 1), side == at + 1 ? 50 : 0);
            }
        }
        promise9OtherIsFilledAnew();
    }

    /** What is new in the emptied one leaves alone what came from there. */
    private static void promise9OtherIsFilledAnew() {
        Counted x = new Counted(50, 50);
        Made.fill(x, 3, 5);
        x.swap();
        check.due("join", x.join(2), 3);
        x.swap();
        for (int i = 0; i < 20; i++) {
            x.tile(10 + i, 10, 1, 1);
            x.byteOf(i, i);
            x.note(i, 49, 100 + i);
        }
        x.turn(3);
        x.swap();
        for (int i = 0; i < 3; i++) {
            check.at(x, i, 50 + i, 0, 1, 1, 0, 0, 1, 1);
        }
        for (int i = 0; i < 5; i++) {
            check.note(x, i, 50 + i, 0, i);
        }
    }

    private static void promise9WhatIsInThemStays() {
        check.promise(9, "The OTHER is put to a side of THIS one");
        for (int way = 0; way < 8; way++) {
            Counted x = new Counted(4, 4);
            x.tile(0, 0, 3, 2);
            Made.bytes(x, 0, 12);
            x.turn(way);
            int left = x.at(0, 0);
            int upper = x.at(0, 1);
            int wide = x.at(0, 2);
            int high = x.at(0, 3);
            int[] shown = new int[16];
            for (int i = 0; i < 16; i++) {
                shown[i] = x.shown(i % 4, i / 4);
            }
            x.swap();
            x.tile(3, 3, 1, 1);
            x.write();
            check.due("join", x.join(2), 2);
            check.at(x, 1, left + 4, upper, wide, high, way, 12, 3, 2);
            for (int i = 0; i < 16; i++) {
                check.due("shown", x.shown(4 + i % 4, i / 4), shown[i] < 0 ? -1 : 4096 + shown[i]);
            }
            for (int i = 0; i < 12; i++) {
                check.due("byteAt(1, " + i + ")", x.byteAt(1, i), 100 + i);
            }
            check.due("the stream that was written stays", x.told(4), 22);
        }
    }

    private static void promise9WayIsZero() {
        check.promise(9, "Its WAY since then is 0");
        for (int way = 0; way < 8; way++) {
            for (int side = 0; side < 4; side++) {
                Counted x = new Counted(4, 4);
                x.turn(way);
                x.join(side);
                check.due("turn(0)", x.turn(0), 0);
                check.due("turn(" + way + ")", x.turn(way), way);
            }
        }
    }

    private static void promise9NoSuchSide() {
        check.promise(9, "IndexOutOfBounds: there is no such side");
        Counted x = new Counted(4, 4);
        for (int side : new int[] {-1, -2, -4, 4, 5, 8, 256, MIN, MIN + 1, MIN + 2, MAX, MAX - 1}) {
            check.indexOut("join(" + side + ")", () -> x.join(side));
        }
        check.told(x, 4, 4, 0, 0, 0, 4, 4, 0, 0);
    }

    private static void promise9FirstException() {
        check.promise(9, "Of several that a call names, the first one");
        for (int side : new int[] {-1, 4, MIN, MAX}) {
            check.indexOut("no side, not alike", () -> Made.unlike().join(side));
            check.indexOut("no side, no room", () -> Made.full().join(side));
        }
        Counted wide = Made.longest(true);
        check.state("widths are not alike, and alike heights would have no room", () -> wide.join(1));
        check.noRoom("heights are alike, no room", () -> wide.join(0));
        Counted full = new Counted(50, 50);
        Made.fill(full, 40, 20);
        full.swap();
        Made.fill(full, 40, 20);
        full.crop(0, 0, 49, 49);
        for (int side = 0; side < 4; side++) {
            int to = side;
            check.state("not alike, no room for tiles and notes", () -> full.join(to));
        }
    }

    private static void promise9ChangesNothing() {
        check.promise(9, "A call that throws changes nothing");
        for (int side : new int[] {-1, 4, MIN, MAX}) {
            Everything.unchanged(check, Made::rich, "join(" + side + ")", x -> x.join(side), Check.INDEX);
        }
        for (int side = 0; side < 4; side++) {
            int to = side;
            Everything.unchanged(check, Made::unlike, "join(" + to + ")", x -> x.join(to), Check.STATE);
            Everything.unchanged(check, Made::full, "join(" + to + ")", x -> x.join(to), Check.NO_ROOM);
            Everything.unchanged(check, () -> Made.longest(true), "join(" + to + ")", x -> x.join(to),
                    to % 2 == 0 ? Check.NO_ROOM : Check.STATE);
            Everything.unchanged(check, () -> Made.longest(false), "join(" + to + ")", x -> x.join(to),
                    to % 2 == 0 ? Check.STATE : Check.NO_ROOM);
            Everything.unchanged(check, TurnAndJoinBoundsTest::manyNotes, "join(" + to + ")", x -> x.join(to),
                    Check.NO_ROOM);
        }
    }

    /** Each picture has room for its own notes, but not for the other one's too. */
    private static Counted manyNotes() {
        Counted x = new Counted(12, 3);
        Made.fill(x, 2, 11);
        x.turn(4);
        x.swap();
        Made.fill(x, 3, 10);
        x.turn(6);
        return x;
    }
}
