/** Edges that the terms name of READING. */
final class ReadingEdges {
    private static final String TERMS = "Terms";
    private static final int OUT = Check.OUT;

    private ReadingEdges() {
    }

    static void all() {
        Doc.each(
            ReadingEdges::wholeHead,
            ReadingEdges::tooManyPlanes,
            ReadingEdges::runsOfNone,
            ReadingEdges::bitsBeforeARun,
            ReadingEdges::runsBeyond,
            ReadingEdges::asFarAsThereAreSome,
            ReadingEdges::asTheyWerePut,
            ReadingEdges::columnsBeforeRows,
            ReadingEdges::partsThatWereRead,
            ReadingEdges::broughtToSamples);
    }

    private static void nothing(String what, String bits) {
        FreeWavelets w = Check.fedWith(bits);
        isNothing(what, w, bits.replace(" ", "").length());
        isNothing(what + ", and what fills the last byte", Check.fedWith(bits), Check.ALL);
    }

    private static void isNothing(String what, FreeWavelets w, int bits) {
        Check.due(what, FreeWavelets.NONE, w.decode(bits));
        Check.due(what + ": no width", 0, w.told(8));
        Check.refused(what + ": nothing is read", Check.STATE, () -> w.at(0, 0));
    }

    private static void taken(String what, String bits) {
        FreeWavelets w = Check.fedWith(bits);
        Check.due(what, bits.replace(" ", "").length(), w.decode(Check.ALL));
        Check.due(what + ": a width", 1, Math.min(1, w.told(8)));
    }

    private static void wholeHead() {
        Doc.says(TERMS, "READING up to so many bits: the HEAD must be there whole, else it is NOTHING;");
        // Three samples, two of them inside: 4, 4 and 5 bits, runs of 1, 3 and 3 bits.
        String head = "0010 0000 00011 1 011 010";
        FreeWavelets w = Check.fedWith(head);
        for (int bits = 0; bits < 20; bits++) {
            isNothing("up to " + bits + " of its 20 bits", w, bits);
        }
        Check.due("up to its 20 bits", 20, w.decode(20));
        Check.due("its width", 3, w.told(8));
        isNothing("none was fed", new FreeWavelets(3, 1), Check.ALL);
        isNothing("one byte was fed", Check.fedWith("00100000"), Check.ALL);
        isNothing("two bytes were fed", Check.fedWith("00100000 00011101"), Check.ALL);
        isNothing("a run is missing", Check.fedWith("0001 0000 00000 010"), Check.ALL);
        isNothing("a run's bits are missing", Check.fedWith("1111 1111 00000 00000000 100"), Check.ALL);
        isNothing("all of a run's bits but the first are missing", Check.fedWith("0001 0000 00000 001"), Check.ALL);
        isNothing("a run has no end of 0", Check.fedWith("1111 1111 00000 000"), Check.ALL);
    }

    private static void tooManyPlanes() {
        Doc.says(TERMS, "likewise with more than 20 PLANES,");
        for (int planes = 0; planes < 32; planes++) {
            String bits = "0000 0000" + Integer.toBinaryString(32 + planes).substring(1) + "010";
            if (planes <= 20) {
                taken(planes + " planes", bits);
            } else {
                nothing(planes + " planes", bits);
            }
        }
        FreeWavelets w = Check.fedWith("0000 0000 10100 1 010  1111 0" + "0".repeat(19));
        Check.due("20 planes, all taken", 17 + 24, w.decode(Check.ALL));
        Check.due("20 planes, told", 20, w.told(12));
        nothing("21 planes, all there", "0000 0000 10101 1 010  1111 0" + "0".repeat(20));
    }

    private static void runsOfNone() {
        Doc.says(TERMS, "with a run of none but the first,");
        taken("the first is of none", "0000 0000 00000 1 010");
        nothing("the second is of none", "0001 0000 00000 010 1 010");
        nothing("the first and the second", "0001 0000 00000 1 1 011");
        nothing("the third is of none", "0001 0000 00000 1 010 1 010");
        nothing("the fourth is of none", "0010 0000 00000 010 010 1 010");
        FreeWavelets w = Check.fedWith("0000 0000 00000 010 1");
        Check.due("behind the last sample there is no run any more", 16, w.decode(Check.ALL));
    }

    private static void bitsBeforeARun() {
        Doc.says(TERMS, "with 17 or more bits 0 before a run,");
        for (int zeros = 17; zeros <= 70; zeros++) {
            // Where numbers wrap around, the one behind 32 or 64 bits 0 looks like a 2, a run of the one sample.
            String run = "0".repeat(zeros) + "1" + "0".repeat(zeros - 1);
            nothing(zeros + " bits 0, a number of 1 and 1", "00000000 00000" + run + "1");
            nothing(zeros + " bits 0, a number of 1 and 0", "00000000 00000" + run + "0");
            nothing(zeros + " bits 0, later", "00010000 00000 010" + run + "1");
        }
        nothing("bits 0 for ever", "00000000 00000" + "0".repeat(3000));
    }

    private static void runsBeyond() {
        Doc.says(TERMS, "or runs that go beyond the last sample.");
        taken("up to the last sample", "0001 0000 00000 011");
        nothing("one beyond", "0001 0000 00000 00100");
        taken("a second run up to the last sample", "0001 0000 00000 010 010");
        nothing("a second run one beyond", "0001 0000 00000 010 011");
        nothing("a third run one beyond", "0001 0000 00000 1 010 011");
        taken("256 samples", "1111 1111 00000 00000000 100000001");
        nothing("257 samples", "1111 1111 00000 00000000 100000010");
        nothing("511 samples", "1111 1111 00000 000000000 1000000000");
        nothing("65535 samples", "1111 1111 00000 0000000000000000 10000000000000000");
        nothing("131070 samples", "1111 1111 00000 0000000000000000 11111111111111111");
        nothing("16 samples of 15 in a row", "1110 0000 00000 0000 10001");
        taken("16 samples of 15 in a row, with another row", "1110 0001 00000 0000 10001 0001111");
    }

    private static void asFarAsThereAreSome() {
        Doc.says(TERMS, "Then bits are taken as they were put, as far as there are some;");
        // Waves 3 and -5; 28 bits, and behind them 4 that fill the last byte and 8 more.
        FreeWavelets w = Check.fedWith("0001 0000 00011 1 011  111 0 11  10 0  1 1  1111 11111111");
        for (int bits = 17; bits <= 28; bits++) {
            Check.due("up to " + bits, bits, w.decode(bits));
        }
        for (int bits : new int[] {29, 32, 40, 41, Check.ALL}) {
            Check.due("up to " + bits, 28, w.decode(bits));
        }
        Check.seen("all", w, new int[] {5, 0});
        FreeWavelets cut = Check.picture(new int[] {5, 0});
        cut.encode(23);
        cut.pass(0, 2400);
        Check.due("the bit that fills the last byte is one, too", 24, cut.decode(Check.ALL));
        FreeWavelets noPlanes = Check.fedWith("0001 0000 00000 1 011 1111111");
        Check.due("no planes", 17, noPlanes.decode(Check.ALL));
        Check.seen("no planes", noPlanes, new int[] {0, 0});
        FreeWavelets noneInside = Check.fedWith("0001 0000 10100 011 11111111");
        Check.due("20 planes of nothing", 16, noneInside.decode(Check.ALL));
        Check.seen("20 planes of nothing", noneInside, new int[] {OUT, OUT});
    }

    private static void asTheyWerePut() {
        Doc.says(TERMS, "Then bits are taken as they were put,");
        // Squares may be open with nothing in them that is: no stream is made so, but its bits are taken.
        FreeWavelets hollow = Check.fedWith("0000 0000 00010 1 010  1110  1 0");
        Check.due("a square of 2 opens, its sample later", 23, hollow.decode(Check.ALL));
        Check.seen("a square of 2 opens, its sample later", hollow, new int[] {1});
        int[][] rows = {
            {0, 255, OUT, 9, 9, 9, 0, 0, 0, 77},
            {0, 1, OUT, 9, 8, 9, OUT, OUT, OUT, 77},
            {200, 2, 3, OUT, OUT, 9, 0, 0, 0, 0}};
        FreeWavelets w = Check.picture(rows);
        int bits = w.encode(Check.ALL);
        w.pass(0, 2400);
        Check.due("all that were put", bits, w.decode(Check.ALL));
        Check.seen("all that were put", w, rows);
        Check.due("planes", w.told(4), w.told(12));
        FreeWavelets noise = Check.noise();
        int many = noise.encode(Check.ALL);
        noise.pass(0, 2400);
        Check.due("16 times 16", many, noise.decode(Check.ALL));
        for (int y = 0; y < 16; y++) {
            for (int x = 0; x < 16; x++) {
                int want = (x + y) % 2 == 0 ? (x * 89 + y * 151 + x * y * 57) % 256 : 0;
                Check.due("16 times 16, at(" + x + ", " + y + ")", want, noise.at(x, y));
            }
        }
    }

    private static void columnsBeforeRows() {
        Doc.says(TERMS, "what is KNOWN is LIFTED BACK: columns before rows, step 4 first,");
        // Waves 1, 1, -1, -1; rows before columns would give a 2.
        FreeWavelets square = Check.fedWith("0001 0001 00001 1 00101  111 10 10 11 11");
        square.decode(Check.ALL);
        Check.seen("columns before rows", square, new int[] {0, 1}, new int[] {0, 0});
        // Waves 1, 0, -4, -4, 6: step 4 leaves -2 and 4, step 2 of -2 -4 4 leaves 0 -1 6, step 1 0 0 0 0 8.
        FreeWavelets row = Check.fedWith("0100 0000 00011 1 00110  1 1 0 1 11 11 1110  0 0 0 1  1 10 0 0 0 0");
        Check.due("step 4 first, bits", 19 + 23, row.decode(Check.ALL));
        Check.seen("step 4 first", row, new int[] {0, 0, 0, 0, 8});
    }

    private static void partsThatWereRead() {
        Doc.says(TERMS, "with PARTS of the mask that was read.");
        // Waves 1 and 2 of two parts; in one part, as in the object's own picture, they would be lifted with step 2.
        String two = "0010 0000 00010 1 010 010 010  1 1 0 110  110 0";
        FreeWavelets w = new FreeWavelets(3, 1);
        w.mask(0, 0, 3, true);
        feed(w, two);
        Check.due("two parts", two.replace(" ", "").length(), w.decode(Check.ALL));
        Check.due("two parts, told", 2, w.told(11));
        Check.seen("two parts", w, new int[] {1, OUT, 2});
        // Then one part of three, waves 1, 0, 2: 2 is place 1 of step 2: 1 - floor(6 / 4) = 0, 2 + 0; step 1 leaves 0 1 2.
        w.clear();
        w.mask(0, 0, 1, true);
        feed(w, "0010 0000 00010 1 00100  1 1 0 110  1 10 0 0");
        Check.due("one part", 19 + 11, w.decode(Check.ALL));
        Check.due("one part, told", 1, w.told(11));
        Check.seen("one part", w, new int[] {0, 1, 2});
    }

    private static void feed(FreeWavelets w, String text) {
        String bits = text.replace(" ", "") + "0000000";
        for (int i = 0; i + 8 <= bits.length(); i += 8) {
            w.feed(Integer.parseInt(bits.substring(i, i + 8), 2));
        }
    }

    private static void broughtToSamples() {
        Doc.says(TERMS, "Samples are brought to 0 .. 255.");
        int[][] cases = {{0, 0}, {1, 1}, {254, 254}, {255, 255}, {256, 255}, {257, 255}, {511, 255}, {512, 255}, {1048575, 255},
            {-1, 0}, {-255, 0}, {-256, 0}, {-1048575, 0}};
        for (int[] one : cases) {
            String number = Integer.toBinaryString((1 << 20) + Math.abs(one[0])).substring(1);
            int first = number.indexOf('1');
            String bits = first < 0 ? "0".repeat(20)
                : "0".repeat(first) + "1111" + (one[0] < 0 ? "1" : "0") + number.substring(first + 1);
            FreeWavelets w = Check.fedWith("0000 0000 10100 1 010" + bits);
            Check.due("bits of " + one[0], 17 + bits.length(), w.decode(Check.ALL));
            Check.due("a wave of " + one[0], one[1], w.at(0, 0));
        }
        // Only at the end: waves of this picture lie far beyond.
        int[][] steep = {{0, 255, 0}, {255, 0, 255}, {0, 255, 0}};
        FreeWavelets w = Check.picture(steep);
        w.encode(Check.ALL);
        w.pass(0, 2400);
        w.decode(Check.ALL);
        Check.due("a wave beyond 255", 510, Math.abs(w.wave(1, 1)));
        Check.seen("waves beyond", w, steep);
        Check.due("nothing is inside, so nothing is brought", FreeWavelets.NONE, readOfNone().at(0, 0));
    }

    private static FreeWavelets readOfNone() {
        FreeWavelets w = Check.fedWith("0000 0000 00000 010");
        w.decode(Check.ALL);
        return w;
    }
}
