/** Promises 1 to 4, 14 and 15: a new object, mask, put, wave, part, told; and the class's end, clear (16). */
public final class PictureTests {
    public static void main(String[] args) {
        newObject();
        mask();
        put();
        wave();
        waveOverAGap();
        waveOfAColumn();
        waveOfAllSteps();
        part();
        partsByTheirSides();
        told();
        clear();
        Check.end();
    }

    private static void newObject() {
        Check.due("NONE", -1, FreeWavelets.NONE);
        int[][] sides = {{1, 1, 1, 1}, {16, 16, 16, 16}, {0, 17, 1, 16}, {-5, 9, 1, 9}, {7, 0, 7, 1},
            {Integer.MIN_VALUE, Integer.MAX_VALUE, 1, 16}};
        for (int[] side : sides) {
            FreeWavelets w = new FreeWavelets(side[0], side[1]);
            Check.due("new: width", side[2], w.told(0));
            Check.due("new: height", side[3], w.told(1));
            for (int what : new int[] {2, 3, 4, 6, 7, 8, 9, 10, 11, 12}) {
                Check.due("new: told " + what, 0, w.told(what));
            }
            Check.due("new: a sample was 0", 0, w.put(side[2] - 1, side[3] - 1, 1, 0));
            Check.due("new: nothing is inside", 100000, w.wave(0, 0));
            Check.refused("new: no stream", Check.INDEX, () -> w.byteAt(0));
            Check.refused("new: nothing was fed", Check.INDEX, () -> w.alter(0, 0));
            Check.refused("new: nothing was read", Check.STATE, () -> w.at(0, 0));
        }
    }

    private static void mask() {
        FreeWavelets w = new FreeWavelets(5, 3);
        Check.due("mask", 2, w.mask(1, 1, 2, true));
        Check.due("mask over some", 3, w.mask(0, 1, 99, true));
        Check.due("mask again", 0, w.mask(0, 1, 5, true));
        Check.due("mask off", 1, w.mask(4, 1, Integer.MAX_VALUE, false));
        Check.due("mask off again", 0, w.mask(4, 1, 1, false));
        Check.due("mask stays in its row", 0, w.mask(0, 0, 5, false) + w.mask(0, 2, 5, false));
        Check.refused("mask x", Check.INDEX, () -> w.mask(5, 0, 1, true));
        Check.refused("mask x below 0", Check.INDEX, () -> w.mask(-1, 0, 1, true));
        Check.refused("mask y", Check.INDEX, () -> w.mask(0, 3, 1, true));
        Check.refused("mask y below 0", Check.INDEX, () -> w.mask(0, -1, 1, true));
        Check.refused("mask n", Check.ARGUMENT, () -> w.mask(0, 0, 0, true));
        Check.refused("mask n below 0", Check.ARGUMENT, () -> w.mask(0, 0, Integer.MIN_VALUE, true));
        Check.refused("mask both", Check.INDEX, () -> w.mask(16, 0, 0, true));
        Check.due("mask: nothing else changed", 4, w.told(2));
    }

    private static void put() {
        FreeWavelets w = new FreeWavelets(6, 2);
        Check.due("put", 2, w.put(1, 0, 2, 7));
        Check.due("put over some", 4, w.put(0, 0, Integer.MAX_VALUE, 7));
        Check.due("put again", 0, w.put(0, 0, 6, 7));
        Check.due("put 255", 1, w.put(5, 1, 9, 255));
        Check.due("put 0", 1, w.put(0, 1, 6, 0));
        Check.due("put is not mask", 0, w.told(2));
        Check.refused("put x", Check.INDEX, () -> w.put(6, 0, 1, 1));
        Check.refused("put y", Check.INDEX, () -> w.put(0, 2, 1, 1));
        Check.refused("put n", Check.ARGUMENT, () -> w.put(0, 0, 0, 1));
        Check.refused("put value", Check.ARGUMENT, () -> w.put(0, 0, 1, 256));
        Check.refused("put value below 0", Check.ARGUMENT, () -> w.put(0, 0, 1, -1));
        Check.refused("put both", Check.INDEX, () -> w.put(-1, 0, 0, 256));
        Check.due("put: nothing else changed", 0, w.put(0, 0, 6, 7) + w.put(0, 1, 6, 0));
    }

    private static void wave() {
        FreeWavelets w = new FreeWavelets(4, 1);
        Check.row(w, 0, 10, 20, 40, 80);
        // Odd: 20 - 25 = -5, 80 - 40 = 40. Even: 10 + floor(-8 / 4) = 8, 40 + floor(37 / 4) = 49.
        // Step 2: 49 - 8 = 41, 8 + floor(84 / 4) = 29; step 4 has one point.
        Check.due("wave 0", 29, w.wave(0, 0));
        Check.due("wave 1", -5, w.wave(1, 0));
        Check.due("wave 2", 41, w.wave(2, 0));
        Check.due("wave 3", 40, w.wave(3, 0));
        w.mask(1, 0, 1, false);
        // Two parts now, which step 2 does not join: 80 - 40 = 40, 40 + floor(82 / 4) = 60.
        Check.due("wave outside", 100000, w.wave(1, 0));
        Check.due("wave alone", 10, w.wave(0, 0));
        Check.due("wave 2 of a part", 60, w.wave(2, 0));
        Check.due("wave 3 of a part", 40, w.wave(3, 0));
        w.put(0, 0, 1, 11);
        Check.due("wave follows its sample", 11, w.wave(0, 0));
        Check.refused("wave x", Check.INDEX, () -> w.wave(4, 0));
        Check.refused("wave x below 0", Check.INDEX, () -> w.wave(-1, 0));
        Check.refused("wave y", Check.INDEX, () -> w.wave(0, 1));
        Check.refused("wave y below 0", Check.INDEX, () -> w.wave(0, -1));
    }

    private static void waveOverAGap() {
        FreeWavelets w = new FreeWavelets(3, 2);
        Check.row(w, 0, 9, 0, 50);
        Check.row(w, 1, 9, 9, 9);
        w.mask(1, 0, 1, false);
        // One part by its second row: with step 2 the corners are neighbours over the gap.
        // Row 1: 9 - 9 = 0, the others stay. Columns, odd: 9 - 9 = 0, 0, 9 - 50 = -41;
        // even: 9, 50 + floor(-80 / 4) = 30. Step 2: 30 - 9 = 21, 9 + floor(44 / 4) = 20.
        int[][] want = {{20, 100000, 21}, {0, 0, -41}};
        for (int y = 0; y < 2; y++) {
            for (int x = 0; x < 3; x++) {
                Check.due("gap (" + x + ", " + y + ")", want[y][x], w.wave(x, y));
            }
        }
    }

    private static void waveOfAColumn() {
        FreeWavelets w = new FreeWavelets(1, 3);
        Check.row(w, 0, 4);
        Check.row(w, 1, 0);
        Check.row(w, 2, 5);
        // Halves and fourths below 0 go down: 0 - floor(9 / 2) = -4, 4 + floor(-6 / 4) = 2,
        // 5 + floor(-6 / 4) = 3; step 2: 3 - 2 = 1, 2 + floor(4 / 4) = 3.
        Check.due("column 0", 3, w.wave(0, 0));
        Check.due("column 1", -4, w.wave(0, 1));
        Check.due("column 2", 1, w.wave(0, 2));
    }

    private static void waveOfAllSteps() {
        FreeWavelets w = new FreeWavelets(16, 1);
        w.mask(0, 0, 16, true);
        w.put(0, 0, 16, 100);
        // All alike: only the first of each eight is left, for there is no step 8.
        for (int x = 0; x < 16; x++) {
            Check.due("steps " + x, x % 8 == 0 ? 100 : 0, w.wave(x, 0));
        }
    }

    private static void part() {
        FreeWavelets w = new FreeWavelets(5, 3);
        Check.refused("part of none", Check.INDEX, () -> w.part(0, 0));
        w.mask(1, 0, 1, true);
        w.mask(3, 0, 2, true);
        w.mask(0, 1, 1, true);
        w.mask(3, 1, 1, true);
        w.mask(0, 2, 4, true);
        int[][] parts = {{1, 1, 0}, {8, 3, 0}};
        Check.due("part: how many", parts.length, w.told(3));
        for (int k = 0; k < parts.length; k++) {
            for (int what = 0; what < 3; what++) {
                Check.due("part " + k + " " + what, parts[k][what], w.part(k, what));
            }
        }
        Check.due("part 3", -1, w.part(0, 3));
        Check.due("part -1", -1, w.part(1, -1));
        Check.refused("part k", Check.INDEX, () -> w.part(2, 0));
        Check.refused("part k below 0", Check.INDEX, () -> w.part(-1, 0));
        Check.refused("part k of another what", Check.INDEX, () -> w.part(2, 3));
        w.mask(3, 1, 1, false);
        Check.due("part: now three", 3, w.told(3));
        Check.due("part 1: now two samples", 2, w.part(1, 0));
        Check.due("part 2: its samples", 5, w.part(2, 0));
        Check.due("part 2: its column", 0, w.part(2, 1));
        Check.due("part 2: its row", 1, w.part(2, 2));
    }

    private static void partsByTheirSides() {
        FreeWavelets w = new FreeWavelets(16, 16);
        for (int y = 0; y < 16; y++) {
            for (int x = y % 2; x < 16; x += 2) {
                w.mask(x, y, 1, true);
            }
        }
        // Corners do not join samples; nor do a row's end and the next row's start.
        Check.due("chess board", 128, w.told(3));
        Check.due("chess board: the last one", 15, w.part(127, 1));
        FreeWavelets ends = new FreeWavelets(16, 2);
        ends.mask(15, 0, 1, true);
        ends.mask(0, 1, 1, true);
        Check.due("ends", 2, ends.told(3));
        FreeWavelets narrow = new FreeWavelets(3, 2);
        narrow.mask(2, 0, 1, true);
        narrow.mask(0, 1, 1, true);
        Check.due("ends of a narrow one", 2, narrow.told(3));
    }

    private static void told() {
        FreeWavelets w = new FreeWavelets(3, 1);
        Check.due("told: head of nothing", 13 + 5, w.told(5));
        Check.row(w, 0, 7, 5);
        int[] before = {3, 1, 2, 1, 3, 20, 0, 0, 0, 0, 0, 0, 0, -1};
        toldAll("told before", before, w);
        w.encode(30);
        w.pass(0, 99);
        w.feed(0);
        w.decode(Check.ALL);
        int[] read = {3, 1, 2, 1, 3, 20, 30, 5, 3, 1, 2, 1, 3, -1};
        toldAll("told of a stream", read, w);
        w.mask(0, 0, 2, false);
        int[] later = {3, 1, 0, 0, 0, 18, 30, 5, 3, 1, 2, 1, 3, -1};
        toldAll("told of what was read", later, w);
        w.alter(0, 0xff);
        w.decode(Check.ALL);
        int[] nothing = {3, 1, 0, 0, 0, 18, 30, 5, 0, 0, 0, 0, 0, -1};
        toldAll("told of nothing", nothing, w);
        for (int what : new int[] {-1, 14, Integer.MIN_VALUE, Integer.MAX_VALUE}) {
            Check.due("told " + what, -1, w.told(what));
        }
    }

    private static void toldAll(String name, int[] want, FreeWavelets w) {
        for (int what = 0; what < want.length; what++) {
            Check.due(name + " " + what, want[what], w.told(what));
        }
    }

    private static void clear() {
        FreeWavelets w = Check.noise();
        w.encode(Check.ALL);
        w.pass(0, 999);
        w.decode(Check.ALL);
        w.clear();
        int[] want = {16, 16, 0, 0, 0, 13 + 17, 0, 0, 0, 0, 0, 0, 0, -1};
        toldAll("clear: told", want, w);
        for (int level = 0; level < 4; level++) {
            Check.due("clear: zeros", 0, w.zeros(level));
        }
        Check.refused("clear: no stream", Check.INDEX, () -> w.byteAt(0));
        Check.refused("clear: nothing to pass", Check.INDEX, () -> w.pass(0, 1));
        Check.refused("clear: nothing was fed", Check.INDEX, () -> w.alter(0, 0));
        Check.refused("clear: nothing was read", Check.STATE, () -> w.at(0, 0));
        Check.refused("clear: no part", Check.INDEX, () -> w.part(0, 0));
        for (int y = 0; y < 16; y++) {
            Check.due("clear: samples are 0", 0, w.put(0, y, 16, 0));
            Check.due("clear: none is inside", 16, w.mask(0, y, 16, true));
        }
        Check.due("clear: waves", 0, w.told(4));
        Check.due("clear: fed anew", 1, w.feed(1));
    }
}
