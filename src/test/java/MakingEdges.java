/** Edges of promises 1 to 8: a new object, mask, put, wave, encode, byteAt, zeros, error. */
final class MakingEdges {
    private static final String NEW = "Promise 1: A new object";
    private static final String MASK = "Promise 2: mask";
    private static final String PUT = "Promise 3: put";
    private static final String WAVE = "Promise 4: wave";
    private static final String ENCODE = "Promise 5: encode";
    private static final String BYTE_AT = "Promise 6: byteAt";
    private static final String ZEROS = "Promise 7: zeros";
    private static final String ERROR = "Promise 8: error";
    private static final int OUT = Check.OUT;
    private static final int NO = Check.NO_WAVE;

    private MakingEdges() {
    }

    static void all() {
        Doc.each(
            MakingEdges::newSides,
            MakingEdges::newSamples,
            MakingEdges::newMask,
            MakingEdges::newReading,
            MakingEdges::maskThrows,
            MakingEdges::maskTheRight,
            MakingEdges::maskOnAndOff,
            MakingEdges::maskHowMany,
            MakingEdges::maskOfNone,
            MakingEdges::putThrows,
            MakingEdges::putLikewise,
            MakingEdges::putHowMany,
            MakingEdges::putOfNoneOrNoValue,
            MakingEdges::waveThrows,
            MakingEdges::waveOfOneInside,
            MakingEdges::waveOfAnother,
            MakingEdges::encodeBits,
            MakingEdges::encodeHowMany,
            MakingEdges::encodeRefuses,
            MakingEdges::encodeThrows,
            MakingEdges::byteThrows,
            MakingEdges::byteOfTheLatest,
            MakingEdges::zerosThatLeave,
            MakingEdges::zerosOfTheLatest,
            MakingEdges::zerosRefuses,
            MakingEdges::zerosThrows,
            MakingEdges::errorThrows,
            MakingEdges::errorMadeNow,
            MakingEdges::errorOfBits,
            MakingEdges::errorOfAllItsSamples);
    }

    private static void newSides() {
        Doc.says(NEW, "FreeWavelets(int width, int height): A picture of this width and height, 1 .. 16 (others count as the"
            + " nearest of these):");
        for (int side = 1; side <= 16; side++) {
            Check.due("width " + side, side, new FreeWavelets(side, 7).told(0));
            Check.due("height " + side, side, new FreeWavelets(7, side).told(1));
            Check.due("width beside height " + side, 7, new FreeWavelets(7, side).told(0));
        }
        int[][] others = {{0, 1}, {-1, 1}, {-7, 1}, {-16, 1}, {Integer.MIN_VALUE, 1}, {17, 16}, {18, 16}, {33, 16},
            {Integer.MAX_VALUE, 16}};
        for (int[] other : others) {
            Check.due("width " + other[0], other[1], new FreeWavelets(other[0], 7).told(0));
            Check.due("height beside width " + other[0], 7, new FreeWavelets(other[0], 7).told(1));
            Check.due("height " + other[0], other[1], new FreeWavelets(7, other[0]).told(1));
        }
    }

    private static void newSamples() {
        Doc.says(NEW, "samples are 0,");
        for (int side : new int[] {0, 1, 16, 17}) {
            FreeWavelets w = new FreeWavelets(side, side);
            int last = w.told(0);
            for (int y = 0; y < last; y++) {
                Check.due("side " + side + ", row " + y, 0, w.put(0, y, 16, 0));
            }
            w.mask(last - 1, last - 1, 1, true);
            Check.due("side " + side + ", the last one", 0, w.wave(last - 1, last - 1));
        }
    }

    private static void newMask() {
        Doc.says(NEW, "none is INSIDE;");
        FreeWavelets w = new FreeWavelets(16, 16);
        Check.due("inside", 0, w.told(2));
        Check.due("parts", 0, w.told(3));
        for (int i = 0; i < 256; i++) {
            Check.due("wave " + i, 100000, w.wave(i % 16, i / 16));
        }
        Check.refused("no part", Check.INDEX, () -> w.part(0, 0));
    }

    private static void newReading() {
        Doc.says(NEW, "nothing was fed or read.");
        FreeWavelets w = new FreeWavelets(16, 16);
        Check.due("bytes fed", 0, w.told(7));
        for (int what = 8; what <= 12; what++) {
            Check.due("told " + what, 0, w.told(what));
        }
        Check.refused("no byte to alter", Check.INDEX, () -> w.alter(0, 0));
        Check.refused("nothing was read", Check.STATE, () -> w.at(0, 0));
        Check.due("there is nothing to read", FreeWavelets.NONE, w.decode(Check.ALL));
        Check.due("the first byte", 1, w.feed(0));
    }

    private static void maskThrows() {
        Doc.says(MASK, "int mask(int x, int y, int n, boolean on) throws IndexOutOfBoundsException,"
            + " IllegalArgumentException:");
        FreeWavelets w = new FreeWavelets(3, 2);
        for (int[] place : new int[][] {{-1, 0}, {3, 0}, {0, -1}, {0, 2}, {Integer.MIN_VALUE, 0}, {0, Integer.MAX_VALUE}}) {
            Check.refused("no sample " + place[0] + ", " + place[1], Check.INDEX, () -> w.mask(place[0], place[1], 1, true));
            Check.refused("first, that there is none", Check.INDEX, () -> w.mask(place[0], place[1], 0, true));
        }
        Check.refused("n is 0", Check.ARGUMENT, () -> w.mask(2, 1, 0, true));
        Check.inside("nothing changed", w, "...", "...");
        Check.due("the first sample", 1, w.mask(0, 0, 1, true));
        Check.due("the last sample", 1, w.mask(2, 1, 1, true));
        Check.inside("two", w, "#..", "..#");
    }

    private static void maskTheRight() {
        Doc.says(MASK, "Samples from (x, y) on, n to the right or as many as there are,");
        FreeWavelets w = new FreeWavelets(5, 3);
        Check.due("one", 1, w.mask(1, 0, 1, true));
        Check.inside("one", w, ".#...", ".....", ".....");
        Check.due("up to the last but one", 3, w.mask(1, 1, 3, true));
        Check.inside("up to the last but one", w, ".#...", ".###.", ".....");
        Check.due("up to the last", 5, w.mask(0, 2, 5, true));
        Check.inside("up to the last", w, ".#...", ".###.", "#####");
        w.clear();
        Check.due("one more than there are", 2, w.mask(3, 0, 3, true));
        Check.inside("one more than there are", w, "...##", ".....", ".....");
        Check.due("as many as a number holds", 4, w.mask(1, 1, Integer.MAX_VALUE, true));
        Check.inside("as many as a number holds", w, "...##", ".####", ".....");
        Check.due("more than there are, from the last one on", 1, w.mask(4, 2, Integer.MAX_VALUE - 3, true));
        Check.inside("more than there are, from the last one on", w, "...##", ".####", "....#");
        FreeWavelets wide = new FreeWavelets(16, 2);
        Check.due("as many as there are in 16", 16, wide.mask(0, 0, 17, true));
        Check.due("the next row is as it was", 0, wide.mask(0, 1, 16, false));
    }

    private static void maskOnAndOff() {
        Doc.says(MASK, "are INSIDE from now on, or not:");
        FreeWavelets w = new FreeWavelets(4, 1);
        w.put(0, 0, 4, 50);
        w.mask(0, 0, 4, true);
        Check.inside("on", w, "####");
        w.mask(0, 0, 1, false);
        w.mask(3, 0, 9, false);
        Check.inside("off at both ends", w, ".##.");
        Check.due("off at both ends, told", 2, w.told(2));
        w.encode(Check.ALL);
        Check.inside("from then on", w, ".##.");
        w.mask(1, 0, 2, false);
        Check.inside("none", w, "....");
        Check.due("none, told", 0, w.told(2));
        w.mask(2, 0, 1, true);
        Check.due("values stay", 50, w.wave(2, 0));
    }

    private static void maskHowMany() {
        Doc.says(MASK, "for how many that is new.");
        FreeWavelets w = new FreeWavelets(6, 1);
        Check.due("off, none was on", 0, w.mask(0, 0, 6, false));
        Check.due("on, two", 2, w.mask(2, 0, 2, true));
        Check.due("on again", 0, w.mask(2, 0, 2, true));
        Check.due("on, those at both sides", 4, w.mask(0, 0, 6, true));
        Check.due("on, all are", 0, w.mask(0, 0, 6, true));
        Check.due("off, one", 1, w.mask(5, 0, 6, false));
        Check.due("off, the others", 5, w.mask(0, 0, 6, false));
        Check.due("off again", 0, w.mask(0, 0, 6, false));
    }

    private static void maskOfNone() {
        Doc.says(MASK, "IllegalArgument: n is below 1.");
        FreeWavelets w = new FreeWavelets(3, 1);
        w.mask(1, 0, 1, true);
        for (int n : new int[] {0, -1, -2, Integer.MIN_VALUE}) {
            Check.refused("on, n is " + n, Check.ARGUMENT, () -> w.mask(0, 0, n, true));
            Check.refused("off, n is " + n, Check.ARGUMENT, () -> w.mask(1, 0, n, false));
        }
        Check.inside("nothing changed", w, ".#.");
        Check.due("n is 1", 1, w.mask(0, 0, 1, true));
    }

    private static void putThrows() {
        Doc.says(PUT, "int put(int x, int y, int n, int v) throws IndexOutOfBoundsException, IllegalArgumentException:");
        FreeWavelets w = new FreeWavelets(3, 2);
        for (int[] place : new int[][] {{-1, 0}, {3, 0}, {0, -1}, {0, 2}, {Integer.MAX_VALUE, 0}, {0, Integer.MIN_VALUE}}) {
            Check.refused("no sample " + place[0] + ", " + place[1], Check.INDEX, () -> w.put(place[0], place[1], 1, 9));
            Check.refused("first, that there is none (n)", Check.INDEX, () -> w.put(place[0], place[1], 0, 9));
            Check.refused("first, that there is none (value)", Check.INDEX, () -> w.put(place[0], place[1], 1, 256));
        }
        Check.refused("n is 0", Check.ARGUMENT, () -> w.put(2, 1, 0, 9));
        Check.refused("no value", Check.ARGUMENT, () -> w.put(2, 1, 1, 256));
        Check.values("nothing changed", w, new int[] {0, 0, 0}, new int[] {0, 0, 0});
        Check.due("the first sample", 1, w.put(0, 0, 1, 8));
        Check.due("the last sample", 1, w.put(2, 1, 1, 9));
        Check.values("two", w, new int[] {8, 0, 0}, new int[] {0, 0, 9});
    }

    private static void putLikewise() {
        Doc.says(PUT, "Samples likewise get a value:");
        FreeWavelets w = new FreeWavelets(4, 3);
        w.put(1, 0, 1, 1);
        w.put(1, 1, 3, 2);
        w.put(0, 2, 4, 3);
        Check.values("up to the last", w, new int[] {0, 1, 0, 0}, new int[] {0, 2, 2, 2}, new int[] {3, 3, 3, 3});
        w.put(2, 0, 3, 4);
        w.put(1, 1, Integer.MAX_VALUE, 255);
        w.put(3, 2, Integer.MAX_VALUE, 0);
        Check.values("more than there are", w, new int[] {0, 1, 4, 4}, new int[] {0, 255, 255, 255}, new int[] {3, 3, 3, 0});
        Check.due("it is not inside by that", 0, w.told(2));
        FreeWavelets wide = new FreeWavelets(16, 2);
        Check.due("as many as there are in 16", 16, wide.put(0, 0, 17, 1));
        Check.due("the next row is as it was", 0, wide.put(0, 1, 16, 0));
    }

    private static void putHowMany() {
        Doc.says(PUT, "how many had another one.");
        FreeWavelets w = new FreeWavelets(6, 1);
        Check.due("0, all had it", 0, w.put(0, 0, 6, 0));
        Check.due("two", 2, w.put(2, 0, 2, 7));
        Check.due("the same again", 0, w.put(2, 0, 2, 7));
        Check.due("those at both sides", 4, w.put(0, 0, 6, 7));
        Check.due("all had another one", 6, w.put(0, 0, 9, 8));
        Check.due("inside or not", 6, w.mask(0, 0, 6, true));
        Check.due("those inside, too", 3, w.put(3, 0, 9, 9));
        Check.due("and those that had it not yet", 3, w.put(0, 0, 6, 9));
    }

    private static void putOfNoneOrNoValue() {
        Doc.says(PUT, "IllegalArgument: n is below 1, or the value.");
        FreeWavelets w = new FreeWavelets(3, 1);
        w.put(0, 0, 3, 5);
        for (int n : new int[] {0, -1, -2, Integer.MIN_VALUE}) {
            Check.refused("n is " + n, Check.ARGUMENT, () -> w.put(0, 0, n, 9));
        }
        for (int v : new int[] {-1, -255, 256, 257, 512, Integer.MIN_VALUE, Integer.MAX_VALUE}) {
            Check.refused("the value is " + v, Check.ARGUMENT, () -> w.put(0, 0, 3, v));
        }
        Check.refused("both", Check.ARGUMENT, () -> w.put(0, 0, 0, 256));
        Check.values("nothing changed", w, new int[] {5, 5, 5});
        Check.due("n is 1, the value 0", 1, w.put(0, 0, 1, 0));
        Check.due("n is 1, the value 255", 1, w.put(1, 0, 1, 255));
        Check.values("both ends of the values", w, new int[] {0, 255, 5});
    }

    private static void waveThrows() {
        Doc.says(WAVE, "int wave(int x, int y) throws IndexOutOfBoundsException:");
        FreeWavelets w = Check.picture(new int[] {1, 2, 3}, new int[] {4, 5, 6});
        for (int far : new int[] {-1, -16, Integer.MIN_VALUE, Integer.MAX_VALUE}) {
            Check.refused("x is " + far, Check.INDEX, () -> w.wave(far, 0));
            Check.refused("y is " + far, Check.INDEX, () -> w.wave(0, far));
        }
        Check.refused("x is the width", Check.INDEX, () -> w.wave(3, 0));
        Check.refused("y is the height", Check.INDEX, () -> w.wave(0, 2));
        Check.refused("x is below 16, but not below the width", Check.INDEX, () -> w.wave(15, 0));
        Check.refused("y is below the width, but not below the height", Check.INDEX, () -> w.wave(1, 2));
        Check.due("the last sample: rows 3 and 4 5 6", 0, w.wave(1, 1));
    }

    private static void waveOfOneInside() {
        Doc.says(WAVE, "The WAVE of a sample INSIDE;");
        Check.waves("0 and 255, each alone", Check.picture(new int[] {0, OUT, OUT, 255}), new int[] {0, NO, NO, 255});
        Check.waves("below 0", Check.picture(new int[] {255, 0}), new int[] {128, -255});
        Check.waves("far below 0", Check.picture(new int[] {0, 255}, new int[] {255, 0}),
            new int[] {128, 0}, new int[] {0, -510});
        FreeWavelets w = Check.picture(new int[] {7});
        Check.due("as it is now", 7, w.wave(0, 0));
        w.put(0, 0, 1, 8);
        Check.due("as it is now, after a put", 8, w.wave(0, 0));
    }

    private static void waveOfAnother() {
        Doc.says(WAVE, "100000 for another one.");
        FreeWavelets w = new FreeWavelets(3, 1);
        w.put(0, 0, 3, 255);
        for (int x = 0; x < 3; x++) {
            Check.due("none is inside, x is " + x, 100000, w.wave(x, 0));
        }
        w.mask(1, 0, 1, true);
        Check.waves("one is inside", w, new int[] {NO, 255, NO});
        w.mask(1, 0, 1, false);
        Check.due("it is not any more", 100000, w.wave(1, 0));
    }

    private static void encodeBits() {
        Doc.says(ENCODE, "A STREAM is made, CUT behind so many bits, 0 .. 60000:");
        // Waves 3 and -5.
        FreeWavelets w = Check.picture(new int[] {5, 0});
        String all = "00010000000111011" + "11101110011";
        Check.due("60000", 28, w.encode(60000));
        Check.made("60000", all, w);
        Check.due("0", 0, w.encode(0));
        Check.made("0", "", w);
        Check.refused("0, no byte", Check.INDEX, () -> w.byteAt(0));
        Check.due("1", 1, w.encode(1));
        Check.made("1", "0", w);
        Check.due("16, within the head", 16, w.encode(16));
        Check.made("16", all.substring(0, 16), w);
        Check.due("17, the head", 17, w.encode(17));
        Check.made("17", all.substring(0, 17), w);
        Check.due("27, all but one", 27, w.encode(27));
        Check.made("27", all.substring(0, 27), w);
        Check.due("28, all", 28, w.encode(28));
        Check.made("28", all, w);
    }

    private static void encodeHowMany() {
        Doc.says(ENCODE, "how many bits it has.");
        FreeWavelets w = Check.picture(new int[] {5, 0});
        for (int bits = 0; bits < 40; bits++) {
            Check.due("cut behind " + bits, Math.min(bits, 28), w.encode(bits));
            Check.due("told of it", Math.min(bits, 28), w.told(6));
        }
        FreeWavelets none = new FreeWavelets(16, 16);
        Check.due("without a sample inside", 30, none.encode(Check.ALL));
        Check.due("without a sample inside, cut", 29, none.encode(29));
        FreeWavelets noise = Check.noise();
        int all = noise.encode(60000);
        Check.due("the last bit", all - 1, noise.encode(all - 1));
        Check.due("no bit behind the last", all, noise.encode(all + 1));
    }

    private static void encodeRefuses() {
        Doc.says(ENCODE, "IllegalArgument.");
        FreeWavelets w = Check.picture(new int[] {5, 0});
        w.encode(27);
        int[] zeros = {w.zeros(0), w.zeros(1), w.zeros(2), w.zeros(3)};
        w.put(0, 0, 2, 255);
        for (int bits : new int[] {-1, -60000, 60001, 60002, Integer.MIN_VALUE, Integer.MAX_VALUE}) {
            Check.refused("bits are " + bits, Check.ARGUMENT, () -> w.encode(bits));
        }
        Check.made("the latest is still the one before", "0001000000011101111101110" + "01", w);
        for (int level = 0; level < 4; level++) {
            Check.due("its zeros, too", zeros[level], w.zeros(level));
        }
    }

    private static void encodeThrows() {
        Doc.says(ENCODE, "int encode(int bits) throws IllegalArgumentException:");
        FreeWavelets w = Check.picture(new int[] {255, 255});
        Check.refused("below", Check.ARGUMENT, () -> w.encode(-1));
        Check.due("the least", 0, w.encode(0));
        // Waves 255 and 0, in a head of 17: 111 10 0, and two bits in each of seven planes.
        Check.due("the most", 17 + 6 + 14, w.encode(60000));
        Check.refused("above", Check.ARGUMENT, () -> w.encode(60001));
    }

    private static void byteThrows() {
        Doc.says(BYTE_AT, "int byteAt(int i) throws IndexOutOfBoundsException:");
        FreeWavelets w = new FreeWavelets(16, 2);
        Check.refused("no stream was made", Check.INDEX, () -> w.byteAt(0));
        // How many bits, how many bytes.
        for (int[] one : new int[][] {{0, 0}, {1, 1}, {7, 1}, {8, 1}, {9, 2}, {16, 2}, {17, 3}}) {
            w.encode(one[0]);
            Check.refused("behind " + one[0] + " bits", Check.INDEX, () -> w.byteAt(one[1]));
            Check.refused("far behind", Check.INDEX, () -> w.byteAt(Integer.MAX_VALUE));
            Check.refused("before", Check.INDEX, () -> w.byteAt(-1));
            Check.refused("far before", Check.INDEX, () -> w.byteAt(Integer.MIN_VALUE));
            if (one[1] > 0) {
                Check.due("the last of " + one[0] + " bits", one[1] == 1 ? first(one[0]) : 0, w.byteAt(one[1] - 1));
            }
        }
    }

    // 1111 0001, cut.
    private static int first(int bits) {
        return 0xf1 & (0xff00 >> Math.min(bits, 8));
    }

    private static void byteOfTheLatest() {
        Doc.says(BYTE_AT, "A byte of the STREAM that was made latest.");
        FreeWavelets w = new FreeWavelets(16, 16);
        w.encode(13);
        Check.due("the first, all 1", 255, w.byteAt(0));
        Check.due("the second, all 0", 0, w.byteAt(1));
        w.mask(0, 0, 16, true);
        w.put(0, 0, 16, 255);
        Check.due("what is drawn later does not count", 0, w.byteAt(1));
        w.error(Check.ALL, 0);
        Check.due("nor does a stream that error makes", 0, w.byteAt(1));
        w.told(5);
        Check.due("nor a head that is told", 0, w.byteAt(1));
        w.encode(Check.ALL);
        Check.due("the latest: 01000, and runs of 1 and 00..", 0x44, w.byteAt(1));
        w.pass(0, 2);
        w.alter(1, 77);
        Check.due("what was fed is another row", 0x44, w.byteAt(1));
        w.encode(3);
        Check.due("the latest is shorter", 0xe0, w.byteAt(0));
        Check.refused("and has one byte", Check.INDEX, () -> w.byteAt(1));
    }

    /** All are inside but two, and the corner alone is not 0: 1111 and a sign, (1, 1), and three squares of each side. */
    private static FreeWavelets corner() {
        FreeWavelets w = new FreeWavelets(16, 16);
        for (int y = 0; y < 16; y++) {
            w.mask(0, y, 16, true);
        }
        w.mask(1, 0, 1, false);
        w.mask(0, 1, 1, false);
        w.put(0, 0, 1, 1);
        return w;
    }

    private static void zerosAre(String what, FreeWavelets w, int... want) {
        for (int level = 0; level < 4; level++) {
            Check.due(what + ", level " + level, want[level], w.zeros(level));
        }
    }

    private static void zerosThatLeave() {
        Doc.says(ZEROS, "Bits 0 by which squares of 1, 2, 4 or 8 samples a side (level 0 .. 3) were left");
        FreeWavelets w = corner();
        int head = w.told(5);
        Check.due("bits", head + 15, w.encode(Check.ALL));
        zerosAre("all", w, 1, 3, 3, 3);
        w.encode(head);
        zerosAre("those of the head are others", w, 0, 0, 0, 0);
        w.encode(head + 5);
        zerosAre("a sign is another", w, 0, 0, 0, 0);
        int[][] cuts = {{6, 1, 0, 0, 0}, {7, 1, 1, 0, 0}, {9, 1, 3, 0, 0}, {10, 1, 3, 1, 0}, {12, 1, 3, 3, 0}, {13, 1, 3, 3, 1},
            {14, 1, 3, 3, 2}, {15, 1, 3, 3, 3}};
        for (int[] cut : cuts) {
            w.encode(head + cut[0]);
            zerosAre("cut behind " + cut[0], w, cut[1], cut[2], cut[3], cut[4]);
        }
        FreeWavelets bits = Check.picture(new int[] {128});
        bits.encode(Check.ALL);
        zerosAre("bits of a wave are others", bits, 0, 0, 0, 0);
        FreeWavelets again = Check.picture(new int[] {8, OUT}, new int[] {OUT, 1});
        again.encode(Check.ALL);
        zerosAre("once in each plane", again, 3, 0, 0, 0);
    }

    private static void zerosOfTheLatest() {
        Doc.says(ZEROS, "in the STREAM that was made latest.");
        FreeWavelets w = corner();
        zerosAre("none was made", w, 0, 0, 0, 0);
        w.encode(Check.ALL);
        zerosAre("the first", w, 1, 3, 3, 3);
        w.put(0, 0, 1, 255);
        zerosAre("what is drawn later does not count", w, 1, 3, 3, 3);
        w.error(Check.ALL, 0);
        zerosAre("nor does a stream that error makes", w, 1, 3, 3, 3);
        w.pass(0, 2400);
        w.decode(Check.ALL);
        zerosAre("nor one that is read", w, 1, 3, 3, 3);
        w.encode(Check.ALL);
        zerosAre("the latest has eight planes", w, 8, 24, 24, 24);
        w.encode(0);
        zerosAre("the latest has no bits", w, 0, 0, 0, 0);
    }

    private static void zerosRefuses() {
        Doc.says(ZEROS, "IllegalArgument: another level.");
        FreeWavelets w = corner();
        for (int level : new int[] {-1, 4, 5, 8, Integer.MIN_VALUE, Integer.MAX_VALUE}) {
            Check.refused("level " + level + " of no stream", Check.ARGUMENT, () -> w.zeros(level));
        }
    }

    private static void zerosThrows() {
        Doc.says(ZEROS, "int zeros(int level) throws IllegalArgumentException:");
        FreeWavelets w = corner();
        w.encode(Check.ALL);
        Check.refused("below", Check.ARGUMENT, () -> w.zeros(-1));
        Check.due("the least", 1, w.zeros(0));
        Check.due("the most", 3, w.zeros(3));
        Check.refused("above", Check.ARGUMENT, () -> w.zeros(4));
    }

    private static void errorThrows() {
        Doc.says(ERROR, "long error(int bits, int part) throws IllegalArgumentException, IndexOutOfBoundsException:");
        FreeWavelets none = new FreeWavelets(3, 1);
        Check.refused("there is no part", Check.INDEX, () -> none.error(0, 0));
        Check.refused("first, that the bits are none", Check.ARGUMENT, () -> none.error(-1, 0));
        FreeWavelets w = Check.picture(new int[] {6, OUT, 7});
        for (int part : new int[] {-1, 2, 3, Integer.MIN_VALUE, Integer.MAX_VALUE}) {
            Check.refused("part " + part, Check.INDEX, () -> w.error(0, part));
            Check.refused("bits below, part " + part, Check.ARGUMENT, () -> w.error(-1, part));
            Check.refused("bits above, part " + part, Check.ARGUMENT, () -> w.error(60001, part));
        }
        Check.due("the first part", 36, w.error(0, 0));
        Check.due("the last part", 49, w.error(0, 1));
        w.mask(2, 0, 1, false);
        Check.refused("it is no part any more", Check.INDEX, () -> w.error(0, 1));
    }

    private static void errorMadeNow() {
        Doc.says(ERROR, "What is left of a PART's WAVES when a STREAM, made now,");
        FreeWavelets w = Check.picture(new int[] {6});
        w.encode(Check.ALL);
        w.put(0, 0, 1, 9);
        Check.due("of the picture now", 81, w.error(0, 0));
        Check.due("of its whole stream", 0, w.error(Check.ALL, 0));
        // 9 has four planes: 1111, the sign, and 001.
        Check.due("cut in the stream made now", 1, w.error(17 + 7, 0));
        Check.due("no stream is made to be kept", 17 + 7, w.told(6));
        Check.due("its bytes are the latest's", 0x1d, w.byteAt(1));
    }

    private static void errorOfBits() {
        Doc.says(ERROR, "is CUT behind so many bits, 0 .. 60000:");
        FreeWavelets w = Check.picture(new int[] {200});
        Check.due("0", 40000, w.error(0, 0));
        Check.due("1", 40000, w.error(1, 0));
        Check.due("the head", 40000, w.error(17, 0));
        Check.due("before the sign", 40000, w.error(21, 0));
        Check.due("behind the sign", 72 * 72, w.error(22, 0));
        Check.due("before the last bit that is 1", 64, w.error(25, 0));
        Check.due("behind it", 0, w.error(26, 0));
        Check.due("all", 0, w.error(29, 0));
        Check.due("more than all", 0, w.error(30, 0));
        Check.due("60000", 0, w.error(60000, 0));
        for (int bits : new int[] {-1, -60000, 60001, Integer.MIN_VALUE, Integer.MAX_VALUE}) {
            Check.refused("bits are " + bits, Check.ARGUMENT, () -> w.error(bits, 0));
        }
    }

    private static void errorOfAllItsSamples() {
        Doc.says(ERROR, "of all its samples the squares of the WAVE less what is KNOWN, added up.");
        // Parts: 128 and -255; 10; and -510 with its three others.
        FreeWavelets w = Check.picture(new int[] {255, 0, OUT, 10}, new int[] {OUT, OUT, OUT, OUT}, new int[] {0, 255, OUT, OUT},
            new int[] {255, 0, OUT, OUT});
        Check.due("a part of two", 128 * 128 + 255 * 255, w.error(0, 0));
        Check.due("a part of one", 100, w.error(0, 1));
        Check.due("a part of four", 128 * 128 + 510 * 510, w.error(0, 2));
        int head = w.told(5);
        // Plane 8: 1 1, then 0, 0 for the squares of two above, and 1: 0 0 0 and 1 with its sign.
        Check.due("one is known in part", 128 * 128 + (510 - 256) * (510 - 256), w.error(head + 10, 2));
        Check.due("not yet by a bit less", 128 * 128 + 510 * 510, w.error(head + 9, 2));
        Check.due("that is nothing to another part", 128 * 128 + 255 * 255, w.error(head + 10, 0));
        for (int part = 0; part < 3; part++) {
            Check.due("nothing is left of part " + part, 0, w.error(Check.ALL, part));
        }
        FreeWavelets zero = Check.picture(new int[] {0, 0});
        Check.due("nothing is left of 0", 0, zero.error(0, 0));
    }
}
