/** Edges that the terms name of a STREAM: its HEAD, its PLANES, a CUT, and what is KNOWN. */
final class StreamEdges {
    private static final String TERMS = "Terms";
    private static final int OUT = Check.OUT;

    private StreamEdges() {
    }

    static void all() {
        Doc.each(
            StreamEdges::sides,
            StreamEdges::planes,
            StreamEdges::runs,
            StreamEdges::lengths,
            StreamEdges::headOnly,
            StreamEdges::squares,
            StreamEdges::bitOfASquare,
            StreamEdges::openOrLeft,
            StreamEdges::signs,
            StreamEdges::bitsOfAWave,
            StreamEdges::quarters,
            StreamEdges::cut,
            StreamEdges::lastByte,
            StreamEdges::known);
    }

    private static void madeOf(String what, String want, FreeWavelets w) {
        w.encode(Check.ALL);
        Check.made(what, want, w);
    }

    private static void sides() {
        Doc.says(TERMS, "A STREAM is bits, in bytes from the highest on: width - 1 and height - 1 (4 bits each);");
        int[][] cases = {{1, 1, 0x00}, {16, 16, 0xff}, {16, 1, 0xf0}, {1, 16, 0x0f}, {9, 2, 0x81}, {2, 9, 0x18}};
        for (int[] one : cases) {
            FreeWavelets w = new FreeWavelets(one[0], one[1]);
            w.encode(Check.ALL);
            Check.due(one[0] + " times " + one[1], one[2], w.byteAt(0));
        }
    }

    private static void planes() {
        Doc.says(TERMS, "how many PLANES there are (5): as many bits as the greatest WAVE without its sign has;");
        int[][] ofOne = {{0, 0}, {1, 1}, {2, 2}, {3, 2}, {4, 3}, {7, 3}, {8, 4}, {127, 7}, {128, 8}, {255, 8}};
        for (int[] one : ofOne) {
            arePlanes("of " + one[0], one[1], Check.picture(new int[] {one[0]}));
        }
        // Waves: 64 and -127; 64 and -128; 128 and -255; the last is 255 - (-255) = 510 below 0.
        arePlanes("of -127", 7, Check.picture(new int[] {127, 0}));
        arePlanes("of -128", 8, Check.picture(new int[] {128, 0}));
        arePlanes("of -255", 8, Check.picture(new int[] {255, 0}));
        arePlanes("of -510", 9, Check.picture(new int[] {0, 255}, new int[] {255, 0}));
        arePlanes("the greatest is not the first", 5, Check.picture(new int[] {1, OUT, 16, OUT, 3}));
        arePlanes("what is outside has none", 1, Check.picture(new int[] {OUT, 1, OUT}));
    }

    private static void arePlanes(String what, int want, FreeWavelets w) {
        w.encode(Check.ALL);
        Check.due(what + ", its bits", want, w.byteAt(1) >> 3);
        Check.due(what + ", told", want, w.told(4));
    }

    private static void runs() {
        Doc.says(TERMS, "RUNS of samples row by row, outside, inside, outside and so on, up to the last sample (the first"
            + " one may be 0 long),");
        madeOf("all outside", "0010 0000 00000 00100", new FreeWavelets(3, 1));
        madeOf("all inside", "0010 0000 00000 1 00100", Check.picture(new int[] {0, 0, 0}));
        madeOf("the first inside", "0010 0000 00000 1 010 011", Check.picture(new int[] {0, OUT, OUT}));
        madeOf("the last inside", "0010 0000 00000 011 010", Check.picture(new int[] {OUT, OUT, 0}));
        madeOf("in turn", "0100 0000 00000 010 010 010 010 010", Check.picture(new int[] {OUT, 0, OUT, 0, OUT}));
        madeOf("over a row's end", "0010 0001 00000 011 00100 010",
            Check.picture(new int[] {OUT, OUT, 0}, new int[] {0, 0, OUT}));
        madeOf("outside over a row's end", "0001 0001 00000 1 010 011 010",
            Check.picture(new int[] {0, OUT}, new int[] {OUT, 0}));
    }

    private static void lengths() {
        Doc.says(TERMS, "each by its length and 1: as many 0 as that number has bits behind its highest, then its bits.");
        String[][] cases = {
            {"0", "1", "00000000 100000000"}, {"1", "010", "0000000 11111111"}, {"2", "011", "0000000 11111110"},
            {"3", "00 100", "0000000 11111101"}, {"62", "00000 111111", "0000000 11000010"},
            {"63", "000000 1000000", "0000000 11000001"}, {"126", "000000 1111111", "0000000 10000010"},
            {"127", "0000000 10000000", "0000000 10000001"}, {"254", "0000000 11111111", "010"},
            {"255", "00000000 100000000", ""}};
        for (String[] one : cases) {
            int before = Integer.parseInt(one[0]);
            FreeWavelets w = new FreeWavelets(16, 16);
            w.mask(before % 16, before / 16, 1, true);
            madeOf(before + " outside", "11111111 00000" + one[1] + "010" + one[2], w);
        }
        FreeWavelets all = new FreeWavelets(16, 16);
        madeOf("256 outside", "11111111 00000 00000000 100000001", all);
        for (int y = 0; y < 16; y++) {
            all.mask(0, y, 16, true);
        }
        madeOf("256 inside", "11111111 00000 1 00000000 100000001", all);
        FreeWavelets board = new FreeWavelets(16, 16);
        for (int i = 0; i < 256; i += 2) {
            board.mask((i + i / 16 % 2) % 16, i / 16, 1, true);
        }
        // Rows begin with an end of the same kind as the last one's: 226 runs of 1, 15 of 2, and 0 at first.
        Check.due("a chess board", 13 + 1 + (226 + 15) * 3, board.told(5));
    }

    private static void headOnly() {
        Doc.says(TERMS, "That is the HEAD; without a sample INSIDE it is all.");
        FreeWavelets none = new FreeWavelets(2, 2);
        none.put(0, 0, 2, 255);
        madeOf("values outside", "0001 0001 00000 00101", none);
        Check.due("values outside, told", 18, none.told(5));
        madeOf("one of 0", "0000 0000 00000 1 010", Check.picture(new int[] {0}));
        FreeWavelets one = Check.picture(new int[] {1});
        madeOf("one of 1 has more", "0000 0000 00001 1 010 1111 0", one);
        Check.due("one of 1, told", 17, one.told(5));
        one.mask(0, 0, 1, false);
        madeOf("it is outside again", "0000 0000 00000 010", one);
    }

    private static void squares() {
        Doc.says(TERMS, "Then PLANES p from the highest down to 0, in each the squares of 8 times 8 samples, row by row"
            + " (from the first column and row on).");
        FreeWavelets four = new FreeWavelets(16, 16);
        one(four, 7, 0, 1);
        one(four, 8, 2, 2);
        one(four, 2, 8, 3);
        one(four, 9, 9, 0);
        madeOf("four squares", "11111111 00010 0001000 010 00000100001 010 0000001011010 010 000010111 010 0000001100111"
            + " 0 11110 11110 0  11110 0 1 0", four);
        FreeWavelets last = new FreeWavelets(9, 9);
        one(last, 8, 8, 1);
        madeOf("a square of which one sample is there", "1000 1000 00001 0000001010001 010  11110", last);
        FreeWavelets lower = new FreeWavelets(1, 9);
        one(lower, 0, 0, 1);
        one(lower, 0, 8, 2);
        madeOf("one below the other", "0000 1000 00010 1 010 0001000 010  0 11110  11110 0", lower);
    }

    private static void one(FreeWavelets w, int x, int y, int v) {
        w.mask(x, y, 1, true);
        w.put(x, y, 1, v);
    }

    private static void bitOfASquare() {
        Doc.says(TERMS, "GOING THROUGH a square that has some sample INSIDE: if it is not OPEN: a bit, 1 if some WAVE in it"
            + " is, without its sign, 2 to the p or more;");
        // 4 is 2 to the 2, 3 is less.
        madeOf("4 and 3", "0000 0100 00011 1 010 00100 010  1111 0 0  0 111 0  0 1",
            Check.picture(new int[] {4}, new int[] {OUT}, new int[] {OUT}, new int[] {OUT}, new int[] {3}));
        madeOf("64 and -128", "0001 0000 01000 1 011  111 0 11  10 0" + "00".repeat(6), Check.picture(new int[] {128, 0}));
        madeOf("64 and -127", "0001 0000 00111 1 011  111 10 11" + "01".repeat(6), Check.picture(new int[] {127, 0}));
        // Waves: 1 and 0, 0, 0: each sample inside has its bit; one that is not has none.
        madeOf("four of a square", "0001 0001 00001 1 00101  111 10 0 0 0", Check.picture(new int[] {1, 1}, new int[] {1, 1}));
        madeOf("three of a square", "0001 0001 00001 1 00100 010  111 10 0 0",
            Check.picture(new int[] {1, 1}, new int[] {1, OUT}));
        FreeWavelets alone = new FreeWavelets(16, 16);
        one(alone, 13, 6, 1);
        madeOf("squares with nothing inside", "11111111 00001 0000001101110 010 000000010010011  11110", alone);
    }

    private static void openOrLeft() {
        Doc.says(TERMS, "if it is 1, the square is OPEN from then on, if it is 0, it is left.");
        // Waves: 1, 0, 0, 0 in the first square of 4, which one bit leaves in two planes, and 4 in the second.
        madeOf("left, and open later", "0100 0001 00011 1 011 011 00100 00100  1 0 1110  0 0  1 1 10 0 0 0 0",
            Check.picture(new int[] {1, 1, OUT, OUT, 4}, new int[] {1, 1, OUT, OUT, OUT}));
        // Squares that are open have no bit of their own in later planes.
        madeOf("open once", "0000 0000 01000 1 010  1111 0" + "0000000", Check.picture(new int[] {128}));
        // A square of each side is left once and open later: waves 2 and 1; 2 and 1, 0; 8 and 1.
        madeOf("left as 8 a side", "1000 0000 00010 1 010 0001000 010  11110 0  0 11110",
            Check.picture(new int[] {2, OUT, OUT, OUT, OUT, OUT, OUT, OUT, 1}));
        madeOf("left as 2 a side", "0011 0000 00010 1 010 010 011  1 1 110 0  0 1 10 0", Check.picture(new int[] {2, OUT, 1, 1}));
        madeOf("left as one sample", "0001 0001 00100 1 010 011 010  111 10 0  0 0  0 0  0 10",
            Check.picture(new int[] {8, OUT}, new int[] {OUT, 1}));
    }

    private static void signs() {
        Doc.says(TERMS, "A square of one sample that has just become OPEN has its SIGN next, 1 below 0, and is known to be 2"
            + " to the p;");
        // Waves: 3 and -5.
        FreeWavelets w = Check.picture(new int[] {5, 0});
        madeOf("3 and -5", "0001 0000 00011 1 011  111 0 11  10 0  1 1", w);
        Check.due("before a sign", 9 + 25, w.error(17 + 5, 0));
        Check.due("-5 is known to be -4", 9 + 1, w.error(17 + 6, 0));
        Check.due("before the other sign", 9 + 1, w.error(17 + 7, 0));
        Check.due("3 is known to be 2", 1 + 1, w.error(17 + 8, 0));
        // Waves: 1 and -1, each known by its sign alone.
        FreeWavelets below = Check.picture(new int[] {1, 0});
        madeOf("1 and -1", "0001 0000 00001 1 011  111 10 11", below);
        Check.due("1 is known", 1, below.error(17 + 5, 0));
        Check.due("-1 is known", 0, below.error(17 + 7, 0));
    }

    private static void bitsOfAWave() {
        Doc.says(TERMS, "one that was OPEN before has bit p of its WAVE next, which is known, too, from then on.");
        int[] known = {128, 192, 192, 192, 200, 200, 200, 200};
        FreeWavelets w = Check.picture(new int[] {200});
        madeOf("200", "0000 0000 01000 1 010  1111 0 1001000", w);
        for (int i = 0; i < known.length; i++) {
            long rest = 200 - known[i];
            Check.due("behind bit " + i, rest * rest, w.error(17 + 5 + i, 0));
        }
        // Waves: 3 and -5; the bits of -5 are those of 5.
        FreeWavelets below = Check.picture(new int[] {5, 0});
        Check.due("bit 1 of -5", 1 + 1, below.error(17 + 9, 0));
        Check.due("bit 0 of 3", 1, below.error(17 + 10, 0));
        Check.due("bit 0 of -5", 0, below.error(17 + 11, 0));
    }

    private static void quarters() {
        Doc.says(TERMS, "An OPEN square of more samples goes on with its four halves of halves: upper left, upper right,"
            + " lower left, lower right.");
        FreeWavelets eight = new FreeWavelets(5, 5);
        one(eight, 0, 0, 1);
        one(eight, 4, 0, 2);
        one(eight, 0, 4, 3);
        one(eight, 4, 4, 0);
        madeOf("of 8", "0100 0100 00010 1 010 00100 010 000010000 010 00100 010  1 0 1110 1110 0  1110 0 1 0", eight);
        FreeWavelets four = Check.picture(new int[] {1, OUT, 2}, new int[] {OUT, OUT, OUT}, new int[] {3, OUT, 0});
        madeOf("of 4", "0010 0010 00010 1 010 010 010 00100 010 010 010  1 1 0 110 110 0  110 0 1 0", four);
        // Waves: 7, 2, 3, 0.
        FreeWavelets two = Check.picture(new int[] {4, 6}, new int[] {7, 9});
        madeOf("of 2", "0001 0001 00011 1 00101  111 10 0 0 0  1 10 10 0  1 0 1 0", two);
    }

    private static void cut() {
        Doc.says(TERMS, "CUT it ends behind so many bits (or all);");
        String all = "00010000000111011" + "11101110011";
        FreeWavelets w = Check.picture(new int[] {5, 0});
        for (int bits = 0; bits <= all.length(); bits++) {
            Check.due("bits of a cut", bits, w.encode(bits));
            Check.made("cut behind " + bits, all.substring(0, bits), w);
        }
        for (int bits : new int[] {all.length() + 1, all.length() + 8, 59999, 60000}) {
            Check.due("all of them", all.length(), w.encode(bits));
            Check.made("cut behind " + bits, all, w);
        }
    }

    private static void lastByte() {
        Doc.says(TERMS, "the last byte is filled with 0.");
        // The bits of the longer stream that was made before must not be left.
        FreeWavelets w = Check.picture(new int[] {255});
        String all = "00000000" + "01000101" + "01111011" + "11111000";
        Check.due("bits", 29, w.encode(Check.ALL));
        Check.made("29 bits", all.substring(0, 29), w);
        Check.due("three 0 behind 29 bits", 0xf8, w.byteAt(3));
        for (int bits = 28; bits > 0; bits--) {
            w.encode(Check.ALL);
            w.encode(bits);
            int last = (bits - 1) / 8;
            String kept = all.substring(8 * last, bits) + "0".repeat(8 * last + 8 - bits);
            Check.due("the last byte of " + bits + " bits", Integer.parseInt(kept, 2), w.byteAt(last));
            Check.refused("no byte behind " + bits + " bits", Check.INDEX, () -> w.byteAt(last + 1));
        }
    }

    private static void known() {
        Doc.says(TERMS, "What is KNOWN of a WAVE by so many bits: 0, till its SIGN is there; then the bits that are there,"
            + " others 0, and the SIGN.");
        // Waves 3 and -5, known as so much by so many bits behind the head; and what they are lifted back to.
        int[][] cases = {{0, 34, 0, 0}, {5, 34, 0, 0}, {6, 10, 2, 0}, {7, 10, 2, 0}, {8, 2, 4, 0}, {9, 2, 4, 0}, {10, 1, 5, 1},
            {11, 0, 5, 0}};
        FreeWavelets w = Check.picture(new int[] {5, 0});
        w.encode(Check.ALL);
        w.pass(0, 2400);
        for (int[] one : cases) {
            Check.due("left behind " + one[0], one[1], w.error(17 + one[0], 0));
            Check.due("taken", 17 + one[0], w.decode(17 + one[0]));
            Check.seen("known behind " + one[0], w, new int[] {one[2], one[3]});
        }
        Check.due("nothing is known within the head", 34, w.error(16, 0));
        Check.due("nothing is known by no bits", 34, w.error(0, 0));
    }
}
