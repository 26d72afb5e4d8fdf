/** Promises 5 to 8: encode, byteAt, zeros, error. */
public final class StreamTests {
    public static void main(String[] args) {
        encode();
        encodeCut();
        encodeRuns();
        encodeSquares();
        byteAt();
        zeros();
        error();
        Check.end();
    }

    private static void encode() {
        FreeWavelets w = new FreeWavelets(3, 1);
        w.encode(Check.ALL);
        Check.made("of nothing", "0010 0000 00000 00100", w);
        w.mask(1, 0, 1, true);
        Check.due("encode", 22, w.encode(Check.ALL));
        Check.made("of a 0", "0010 0000 00000 010 010 010", w);
        w.put(1, 0, 1, 5);
        w.encode(Check.ALL);
        Check.made("of a 5", "0010 0000 00011 010 010 010  1111 0  0  1", w);
        w.mask(0, 0, 1, true);
        w.put(0, 0, 1, 7);
        // Waves: 5 - 7 = -2, 7 + floor(-2 / 4) = 6.
        w.encode(Check.ALL);
        Check.made("of 6 and -2", "0010 0000 00011 1 011 010  1111 0 0  1 11  0 0", w);
    }

    private static void encodeCut() {
        FreeWavelets w = new FreeWavelets(3, 1);
        Check.row(w, 0, 7, 5);
        String all = "00100000000111011010" + "11110011100";
        for (int cut = 0; cut <= all.length() + 2; cut++) {
            int bits = Math.min(cut, all.length());
            Check.due("encode cut", bits, w.encode(cut));
            Check.made("cut " + cut, all.substring(0, bits), w);
        }
        Check.refused("encode below 0", Check.ARGUMENT, () -> w.encode(-1));
        Check.refused("encode too far", Check.ARGUMENT, () -> w.encode(60001));
        Check.made("refused", all, w);
    }

    private static void encodeRuns() {
        FreeWavelets w = new FreeWavelets(16, 16);
        w.encode(Check.ALL);
        Check.made("256 outside", "1111 1111 00000 00000000 100000001", w);
        w.mask(14, 3, 9, true);
        w.mask(0, 4, 6, true);
        w.encode(Check.ALL);
        // Runs go on over the ends of rows: 62 outside, 8 inside, 186 outside.
        Check.made("over an end", "1111 1111 00000 00000 111111 000 1001 0000000 10111011", w);
    }

    private static void encodeSquares() {
        FreeWavelets w = new FreeWavelets(9, 9);
        w.mask(8, 0, 1, true);
        w.mask(3, 7, 1, true);
        w.mask(8, 8, 1, true);
        w.put(8, 0, 1, 1);
        w.put(3, 7, 1, 2);
        w.put(8, 8, 1, 3);
        // Runs of 8, 1, 57, 1, 13, 1. The square lower left has nothing inside; (3, 7) is in the quarter lower left.
        String head = "1000 1000 00010 0001001 010 00000111010 010 0001110 010";
        String planeOne = "1 1 1 1 0   0   1 1 1 1 0";
        String planeZero = "0   1 1 1 1 0   1";
        w.encode(Check.ALL);
        Check.made("squares", head + planeOne + planeZero, w);
    }

    private static void byteAt() {
        FreeWavelets w = new FreeWavelets(16, 2);
        Check.refused("byteAt before", Check.INDEX, () -> w.byteAt(0));
        w.encode(9);
        Check.due("byteAt 0", 0xf1, w.byteAt(0));
        Check.due("byteAt 1", 0, w.byteAt(1));
        Check.refused("byteAt behind", Check.INDEX, () -> w.byteAt(2));
        Check.refused("byteAt below 0", Check.INDEX, () -> w.byteAt(-1));
        Check.refused("byteAt far behind", Check.INDEX, () -> w.byteAt(Integer.MAX_VALUE));
        w.mask(0, 0, 16, true);
        w.put(0, 0, 16, 99);
        Check.due("byteAt: still the latest", 0xf1, w.byteAt(0));
        w.encode(8);
        Check.refused("byteAt behind a whole byte", Check.INDEX, () -> w.byteAt(1));
        w.encode(0);
        Check.refused("byteAt of no bits", Check.INDEX, () -> w.byteAt(0));
    }

    private static void zeros() {
        FreeWavelets w = new FreeWavelets(16, 16);
        for (int y = 0; y < 16; y++) {
            w.mask(0, y, 16, true);
        }
        w.mask(1, 0, 1, false);
        w.mask(0, 1, 1, false);
        w.put(0, 0, 1, 1);
        zerosAre("before", w, 0, 0, 0, 0);
        // Its corner alone is not 0. Then 1111 and the sign, (1, 1), and three squares of each side.
        int all = w.encode(Check.ALL);
        Check.due("zeros: bits", w.told(5) + 15, all);
        zerosAre("all", w, 1, 3, 3, 3);
        w.error(0, 0);
        w.put(0, 0, 1, 200);
        zerosAre("of the stream", w, 1, 3, 3, 3);
        w.put(0, 0, 1, 1);
        w.encode(all - 1);
        zerosAre("cut by one", w, 1, 3, 3, 2);
        w.encode(w.told(5) + 6);
        zerosAre("cut behind the sample's", w, 1, 0, 0, 0);
        w.encode(w.told(5) + 5);
        zerosAre("a sign counts not", w, 0, 0, 0, 0);
        Check.refused("zeros 4", Check.ARGUMENT, () -> w.zeros(4));
        Check.refused("zeros -1", Check.ARGUMENT, () -> w.zeros(-1));
    }

    private static void zerosAre(String what, FreeWavelets w, int... want) {
        for (int level = 0; level < 4; level++) {
            Check.due("zeros " + what + " " + level, want[level], w.zeros(level));
        }
    }

    private static void error() {
        FreeWavelets w = new FreeWavelets(4, 1);
        Check.row(w, 0, 6);
        w.mask(3, 0, 1, true);
        w.put(3, 0, 1, 200);
        int head = w.told(5);
        Check.due("error of all", 36, w.error(0, 0));
        Check.due("error of a head", 40000, w.error(head, 1));
        Check.due("error of the whole", 0, w.error(Check.ALL, 0) + w.error(Check.ALL, 1));
        // Two squares open, one is left, one opens, the sample opens, its sign.
        Check.due("error before the sign", 40000, w.error(head + 5, 1));
        Check.due("error behind the sign", 72 * 72, w.error(head + 6, 1));
        Check.due("error of the other part", 36, w.error(head + 6, 0));
        Check.due("error: no stream was made", 0, w.told(6));
        Check.refused("error bits", Check.ARGUMENT, () -> w.error(-1, 0));
        Check.refused("error too many bits", Check.ARGUMENT, () -> w.error(60001, 0));
        Check.refused("error part", Check.INDEX, () -> w.error(0, 2));
        Check.refused("error part below 0", Check.INDEX, () -> w.error(0, -1));
        Check.refused("error both", Check.ARGUMENT, () -> w.error(60001, 7));
        w.mask(0, 0, 1, false);
        Check.due("error of the stream made now", 40000, w.error(0, 0));
    }
}
