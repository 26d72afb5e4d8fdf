/** Edges of promises 9 to 16: feed, pass, alter, decode, at, part, told, clear. */
final class TakingEdges {
    private static final String FEED = "Promise 9: feed";
    private static final String PASS = "Promise 10: pass";
    private static final String ALTER = "Promise 11: alter";
    private static final String DECODE = "Promise 12: decode";
    private static final String AT = "Promise 13: at";
    private static final String PART = "Promise 14: part";
    private static final String TOLD = "Promise 15: told";
    private static final String CLEAR = "Promise 16: clear";
    private static final int OUT = Check.OUT;
    /** Waves 3 and -5: a head of 17 bits and 11 more. */
    private static final String STREAM = "0001 0000 00011 1 011  111 0 11  10 0  1 1";

    private TakingEdges() {
    }

    static void all() {
        Doc.each(
            TakingEdges::feedThrows,
            TakingEdges::feedMore,
            TakingEdges::feedNoByte,
            TakingEdges::feedWithoutRoom,
            TakingEdges::passThrows,
            TakingEdges::passOfTheLatest,
            TakingEdges::passHowMany,
            TakingEdges::passBelowNone,
            TakingEdges::passWithoutRoom,
            TakingEdges::alterThrows,
            TakingEdges::alterToAnother,
            TakingEdges::decodeUpTo,
            TakingEdges::decodeHowMany,
            TakingEdges::decodeOfNothing,
            TakingEdges::decodeRefuses,
            TakingEdges::decodeThrows,
            TakingEdges::atThrows,
            TakingEdges::atWhatWasRead,
            TakingEdges::atOutside,
            TakingEdges::partThrows,
            TakingEdges::partOfAPart,
            TakingEdges::partOfAnotherWhat,
            TakingEdges::toldAsItIsNow,
            TakingEdges::toldOfTheStream,
            TakingEdges::toldOfBytesFed,
            TakingEdges::toldOfWhatWasRead,
            TakingEdges::toldOfNothingRead,
            TakingEdges::toldOfAnotherWhat,
            TakingEdges::clearSamples,
            TakingEdges::clearMask,
            TakingEdges::clearStream,
            TakingEdges::clearFedAndRead,
            TakingEdges::clearAndBegin);
    }

    private static void feedThrows() {
        Doc.says(FEED, "int feed(int b) throws IllegalArgumentException, UnsupportedOperationException:");
        FreeWavelets w = RefusalEdges.full();
        Check.refused("no byte, and no room", Check.ARGUMENT, () -> w.feed(256));
        Check.refused("no byte below 0, and no room", Check.ARGUMENT, () -> w.feed(-1));
        Check.refused("a byte, and no room", Check.ROOM, () -> w.feed(255));
        FreeWavelets empty = new FreeWavelets(1, 1);
        Check.refused("no byte, but room", Check.ARGUMENT, () -> empty.feed(256));
        Check.due("a byte, and room", 1, empty.feed(255));
    }

    private static void feedMore() {
        Doc.says(FEED, "A byte of a STREAM to be READ more: how many there are.");
        FreeWavelets w = new FreeWavelets(2, 1);
        Check.due("the first", 1, w.feed(0));
        Check.due("the second", 2, w.feed(255));
        Check.due("the third", 3, w.feed(128));
        Check.due("behind what was fed", 128, w.alter(2, 1));
        Check.due("before it", 255, w.alter(1, 1));
        Check.due("and the first", 0, w.alter(0, 1));
        w.encode(Check.ALL);
        w.pass(0, 2);
        Check.due("those that were passed count, too", 6, w.feed(9));
        Check.due("the last of 2,400", 2400, Check.fedUpTo(2399).feed(9));
    }

    private static void feedNoByte() {
        Doc.says(FEED, "IllegalArgument: it is none.");
        FreeWavelets w = new FreeWavelets(1, 1);
        for (int b : new int[] {-1, -128, -255, 256, 257, 511, Integer.MIN_VALUE, Integer.MAX_VALUE}) {
            Check.refused("of " + b, Check.ARGUMENT, () -> w.feed(b));
        }
        Check.due("nothing was fed", 0, w.told(7));
        for (int b = 0; b < 256; b++) {
            Check.due("of " + b, b + 1, w.feed(b));
        }
        Check.due("127 is kept", 127, w.alter(127, 0));
        Check.due("128 is kept", 128, w.alter(128, 0));
        Check.due("255 is kept", 255, w.alter(255, 0));
    }

    private static void feedWithoutRoom() {
        Doc.says(FEED, "UnsupportedOperation: there are 2,400.");
        FreeWavelets w = Check.fedUpTo(2398);
        Check.due("there are 2,398", 2399, w.feed(1));
        Check.due("there are 2,399", 2400, w.feed(2));
        Check.refused("there are 2,400", Check.ROOM, () -> w.feed(3));
        Check.refused("there still are", Check.ROOM, () -> w.feed(4));
        Check.due("nothing changed", 2400, w.told(7));
        Check.due("the last one", 2, w.alter(2399, 9));
        Check.due("the last but one", 1, w.alter(2398, 9));
        w.clear();
        Check.due("there is room again", 1, w.feed(5));
    }

    private static void passThrows() {
        Doc.says(PASS, "int pass(int from, int n) throws IndexOutOfBoundsException, IllegalArgumentException,"
            + " UnsupportedOperationException:");
        FreeWavelets none = new FreeWavelets(1, 1);
        Check.refused("no stream", Check.INDEX, () -> none.pass(0, 0));
        Check.refused("no stream, n below 0", Check.INDEX, () -> none.pass(0, -1));
        none.encode(0);
        Check.refused("a stream of no bits", Check.INDEX, () -> none.pass(0, 0));
        FreeWavelets w = Check.fedUpTo(2400);
        int bytes = (w.told(6) + 7) / 8;
        for (int from : new int[] {-1, bytes, bytes + 1, Integer.MIN_VALUE, Integer.MAX_VALUE}) {
            Check.refused("from " + from, Check.INDEX, () -> w.pass(from, 0));
            Check.refused("from " + from + ", n below 0", Check.INDEX, () -> w.pass(from, -1));
            Check.refused("from " + from + ", no room", Check.INDEX, () -> w.pass(from, 1));
        }
        Check.refused("n below 0, no room", Check.ARGUMENT, () -> w.pass(0, -1));
        Check.refused("no room", Check.ROOM, () -> w.pass(bytes - 1, 1));
        Check.due("from the last one, none", 0, w.pass(bytes - 1, 0));
    }

    private static void passOfTheLatest() {
        Doc.says(PASS, "Bytes of the STREAM that was made latest are fed, from one on,");
        FreeWavelets w = Check.picture(new int[] {5, 0});
        w.encode(Check.ALL);
        w.put(0, 0, 2, 255);
        int[] bytes = {0x10, 0x1d, 0xf7, 0x30};
        Check.due("the middle", 2, w.pass(1, 2));
        Check.due("from the last one", 1, w.pass(3, 1));
        Check.due("from the first one", 1, w.pass(0, 1));
        int[] order = {1, 2, 3, 0};
        for (int i = 0; i < 4; i++) {
            Check.due("byte " + i, bytes[order[i]], w.alter(i, 7));
            Check.due("the stream keeps its own", bytes[i], w.byteAt(i));
        }
        w.encode(5);
        w.pass(0, 9);
        Check.due("of the latest", 0x10, w.alter(4, 7));
        Check.due("which has one byte", 5, w.told(7));
    }

    private static void passHowMany() {
        Doc.says(PASS, "n or as many as there are: how many.");
        // 28 bits: four bytes.
        FreeWavelets w = Check.picture(new int[] {5, 0});
        w.encode(Check.ALL);
        Check.due("none", 0, w.pass(0, 0));
        Check.due("none from the last one", 0, w.pass(3, 0));
        Check.due("none was fed", 0, w.told(7));
        Check.due("one", 1, w.pass(0, 1));
        Check.due("all but one", 3, w.pass(0, 3));
        Check.due("all", 4, w.pass(0, 4));
        Check.due("one more than there are", 4, w.pass(0, 5));
        Check.due("more than there are from the third", 2, w.pass(2, 3));
        Check.due("as many as a number holds", 3, w.pass(1, Integer.MAX_VALUE));
        Check.due("from the last one", 1, w.pass(3, Integer.MAX_VALUE));
        Check.due("those are fed", 1 + 3 + 4 + 4 + 2 + 3 + 1, w.told(7));
    }

    private static void passBelowNone() {
        Doc.says(PASS, "IllegalArgument: n is below 0.");
        FreeWavelets w = Check.picture(new int[] {5, 0});
        w.encode(Check.ALL);
        for (int n : new int[] {-1, -2, -2400, Integer.MIN_VALUE}) {
            Check.refused("n is " + n, Check.ARGUMENT, () -> w.pass(0, n));
            Check.refused("n is " + n + " from the last one", Check.ARGUMENT, () -> w.pass(3, n));
        }
        Check.due("nothing was fed", 0, w.told(7));
        Check.due("n is 0", 0, w.pass(0, 0));
    }

    private static void passWithoutRoom() {
        Doc.says(PASS, "UnsupportedOperation: there would be more than 2,400.");
        FreeWavelets w = Check.fedUpTo(2397);
        int bytes = (w.told(6) + 7) / 8;
        Check.refused("2,401", Check.ROOM, () -> w.pass(0, 4));
        Check.refused("all of the stream", Check.ROOM, () -> w.pass(0, Integer.MAX_VALUE));
        Check.due("nothing changed", 2397, w.told(7));
        Check.due("2,399, for there are no more than two", 2, w.pass(bytes - 2, Integer.MAX_VALUE));
        Check.refused("2,401 of two", Check.ROOM, () -> w.pass(bytes - 2, 9));
        Check.due("2,400", 1, w.pass(0, 1));
        Check.due("2,400 were fed", 2400, w.told(7));
        Check.refused("one more", Check.ROOM, () -> w.pass(0, 1));
        Check.due("none more", 0, w.pass(0, 0));
        Check.due("the last one", w.byteAt(0), w.alter(2399, 0));
        Check.due("the last but one", w.byteAt(bytes - 1), w.alter(2398, 0));
    }

    private static void alterThrows() {
        Doc.says(ALTER, "int alter(int i, int b) throws IndexOutOfBoundsException, IllegalArgumentException:");
        FreeWavelets w = new FreeWavelets(1, 1);
        Check.refused("nothing was fed", Check.INDEX, () -> w.alter(0, 0));
        Check.refused("nothing was fed, no byte", Check.INDEX, () -> w.alter(0, 256));
        w.encode(Check.ALL);
        Check.refused("a stream was made, nothing was fed", Check.INDEX, () -> w.alter(0, 0));
        w.feed(20);
        w.feed(30);
        for (int i : new int[] {-1, 2, 3, 2399, 2400, Integer.MIN_VALUE, Integer.MAX_VALUE}) {
            Check.refused("no such byte " + i, Check.INDEX, () -> w.alter(i, 1));
            Check.refused("no such byte, and none " + i, Check.INDEX, () -> w.alter(i, -1));
        }
        for (int b : new int[] {-1, -128, 256, 511, Integer.MIN_VALUE, Integer.MAX_VALUE}) {
            Check.refused("it is no byte, " + b, Check.ARGUMENT, () -> w.alter(1, b));
        }
        Check.due("the first is as it was", 20, w.alter(0, 0));
        Check.due("the last is as it was", 30, w.alter(1, 255));
        FreeWavelets full = RefusalEdges.full();
        Check.refused("no such byte when it is full", Check.INDEX, () -> full.alter(2400, 1));
    }

    private static void alterToAnother() {
        Doc.says(ALTER, "A byte that was fed becomes another one: what it was.");
        FreeWavelets w = Check.fedWith(STREAM);
        Check.due("all bits", 28, w.decode(Check.ALL));
        Check.due("the first", 0x10, w.alter(0, 255));
        Check.due("it was 255", 255, w.alter(0, 0));
        Check.due("it was 0", 0, w.alter(0, 0x10));
        Check.due("the last", 0x30, w.alter(3, 0x20));
        Check.due("there are as many", 4, w.told(7));
        Check.seen("what was read stays", w, new int[] {5, 0});
        w.decode(Check.ALL);
        // The last bit is 0 now: waves 3 and -4.
        Check.seen("what is read then", w, new int[] {5, 1});
        Check.due("128 is kept", 0x20, w.alter(3, 128));
        Check.due("128 was kept", 128, w.alter(3, 127));
        Check.due("127 was kept", 127, w.alter(3, 0));
        FreeWavelets full = RefusalEdges.full();
        int last = full.alter(2399, 88);
        Check.due("the last of 2,400", 88, full.alter(2399, last));
        Check.due("the last of 2,400 again", last, full.alter(2399, 0));
    }

    private static void decodeUpTo() {
        Doc.says(DECODE, "READING up to so many bits, 0 .. 60000, of those that were fed:");
        FreeWavelets w = Check.fedWith(STREAM);
        Check.due("60000", 28, w.decode(60000));
        Check.seen("60000", w, new int[] {5, 0});
        Check.due("0", FreeWavelets.NONE, w.decode(0));
        Check.due("1", FreeWavelets.NONE, w.decode(1));
        Check.due("17, the head", 17, w.decode(17));
        Check.seen("17", w, new int[] {0, 0});
        Check.due("23", 23, w.decode(23));
        Check.seen("23", w, new int[] {2, 0});
        Check.due("27, all but one", 27, w.decode(27));
        Check.seen("27", w, new int[] {5, 1});
        FreeWavelets made = Check.picture(new int[] {5, 0});
        made.encode(Check.ALL);
        Check.due("a stream was made, but nothing fed", FreeWavelets.NONE, made.decode(Check.ALL));
        made.pass(0, 3);
        Check.due("24 bits were fed", 24, made.decode(Check.ALL));
        made.pass(3, 1);
        Check.due("32 bits were fed", 28, made.decode(Check.ALL));
        Check.due("they are still there", 28, made.decode(Check.ALL));
        FreeWavelets full = RefusalEdges.full();
        Check.due("2,400 bytes were fed", full.told(6), full.decode(60000));
    }

    private static void decodeHowMany() {
        Doc.says(DECODE, "how many were taken;");
        FreeWavelets w = Check.fedWith(STREAM + "1111 11111111");
        for (int bits = 17; bits < 45; bits++) {
            Check.due("up to " + bits, Math.min(28, bits), w.decode(bits));
        }
        FreeWavelets cut = Check.fedWith(STREAM.replace(" ", "").substring(0, 24));
        Check.due("fewer were fed", 24, cut.decode(Check.ALL));
        FreeWavelets none = Check.fedWith("0000 0000 00000 010 11111111");
        Check.due("a head alone", 16, none.decode(Check.ALL));
    }

    private static void decodeOfNothing() {
        Doc.says(DECODE, "NONE if it is NOTHING (nothing is READ then).");
        String[] nothings = {"", "0000", "0000 0000 10101 010", "0001 0000 00000 010 1 010",
            "0000 0000 00000 00000000000000000 100000000000000001", "0000 0000 00000 011"};
        for (String bits : nothings) {
            FreeWavelets w = Check.fedWith(STREAM + "0000" + "0".repeat(16));
            Check.due("something", 28, w.decode(Check.ALL));
            String filled = bits.replace(" ", "") + "0".repeat(48);
            for (int i = 0; i < 6; i++) {
                w.alter(i, Integer.parseInt(filled.substring(8 * i, 8 * i + 8), 2));
            }
            Check.due("nothing", FreeWavelets.NONE, w.decode(bits.replace(" ", "").length()));
            Check.refused("what was read before is gone", Check.STATE, () -> w.at(0, 0));
            for (int what = 8; what <= 12; what++) {
                Check.due("told " + what, 0, w.told(what));
            }
            Check.due("what was fed stays", 6, w.told(7));
        }
        FreeWavelets again = Check.fedWith(STREAM);
        again.decode(3);
        Check.due("something again", 28, again.decode(Check.ALL));
        Check.seen("something again", again, new int[] {5, 0});
    }

    private static void decodeRefuses() {
        Doc.says(DECODE, "IllegalArgument.");
        FreeWavelets w = Check.fedWith(STREAM);
        w.decode(27);
        for (int bits : new int[] {-1, -60000, 60001, 60002, Integer.MIN_VALUE, Integer.MAX_VALUE}) {
            Check.refused("bits are " + bits, Check.ARGUMENT, () -> w.decode(bits));
        }
        Check.seen("what was read stays", w, new int[] {5, 1});
    }

    private static void decodeThrows() {
        Doc.says(DECODE, "int decode(int bits) throws IllegalArgumentException:");
        FreeWavelets w = Check.fedWith(STREAM);
        Check.refused("below", Check.ARGUMENT, () -> w.decode(-1));
        Check.due("the least", FreeWavelets.NONE, w.decode(0));
        Check.refused("above", Check.ARGUMENT, () -> w.decode(60001));
        Check.due("the most", 28, w.decode(60000));
    }

    private static void atThrows() {
        Doc.says(AT, "int at(int x, int y) throws IllegalStateException, IndexOutOfBoundsException:");
        FreeWavelets w = Check.fedWith("0010 0001 00000 00111");
        Check.refused("nothing was read", Check.STATE, () -> w.at(0, 0));
        Check.refused("nothing was read, no such sample", Check.STATE, () -> w.at(-1, 99));
        w.decode(Check.ALL);
        for (int far : new int[] {-1, 15, 16, Integer.MIN_VALUE, Integer.MAX_VALUE}) {
            Check.refused("x is " + far, Check.INDEX, () -> w.at(far, 0));
            Check.refused("y is " + far, Check.INDEX, () -> w.at(0, far));
        }
        Check.refused("x is the width that was read", Check.INDEX, () -> w.at(3, 0));
        Check.refused("y is the height that was read", Check.INDEX, () -> w.at(0, 2));
        Check.due("the last sample that was read", FreeWavelets.NONE, w.at(2, 1));
        FreeWavelets wide = new FreeWavelets(16, 16);
        wide.feed(0x00);
        wide.feed(0x02);
        Check.due("one sample was read", 16, wide.decode(Check.ALL));
        Check.refused("the object's own width does not count", Check.INDEX, () -> wide.at(1, 0));
        Check.refused("nor does its height", Check.INDEX, () -> wide.at(0, 1));
        wide.decode(0);
        Check.refused("nothing was read, and no such sample", Check.STATE, () -> wide.at(1, 1));
    }

    private static void atWhatWasRead() {
        Doc.says(AT, "A sample of what was READ;");
        FreeWavelets w = Check.fedWith(STREAM);
        w.decode(Check.ALL);
        w.mask(0, 0, 1, true);
        w.put(0, 0, 1, 99);
        w.encode(Check.ALL);
        w.feed(255);
        w.alter(0, 255);
        Check.seen("not of what is drawn, made or fed since", w, new int[] {5, 0});
        w.alter(0, 0x10);
        w.decode(25);
        Check.seen("of what was read latest", w, new int[] {4, 0});
        FreeWavelets ends = Check.picture(new int[] {0, OUT, 255});
        ends.encode(Check.ALL);
        ends.pass(0, 2400);
        ends.decode(Check.ALL);
        Check.due("the least value", 0, ends.at(0, 0));
        Check.due("the greatest value", 255, ends.at(2, 0));
    }

    private static void atOutside() {
        Doc.says(AT, "NONE if it is not INSIDE.");
        FreeWavelets w = Check.picture(new int[] {OUT, 0, OUT}, new int[] {7, OUT, 255});
        w.encode(Check.ALL);
        w.pass(0, 2400);
        w.decode(Check.ALL);
        w.mask(0, 0, 3, true);
        w.mask(0, 1, 3, false);
        Check.seen("by the mask that was read", w, new int[] {OUT, 0, OUT}, new int[] {7, OUT, 255});
        FreeWavelets none = Check.fedWith("0001 0000 00000 011");
        none.decode(Check.ALL);
        Check.seen("none is inside", none, new int[] {OUT, OUT});
        FreeWavelets all = Check.fedWith("0001 0000 00000 1 011");
        all.decode(Check.ALL);
        Check.seen("all are inside", all, new int[] {0, 0});
    }

    private static void partThrows() {
        Doc.says(PART, "int part(int k, int what) throws IndexOutOfBoundsException:");
        FreeWavelets w = Check.picture(new int[] {0, OUT, 0});
        for (int k : new int[] {-1, 2, 3, 256, Integer.MIN_VALUE, Integer.MAX_VALUE}) {
            for (int what : new int[] {-1, 0, 1, 2, 3}) {
                Check.refused("part " + k + ", what = " + what, Check.INDEX, () -> w.part(k, what));
            }
        }
        Check.due("the first part", 1, w.part(0, 0));
        Check.due("the last part", 1, w.part(1, 0));
        w.mask(1, 0, 1, true);
        Check.refused("there is one part now", Check.INDEX, () -> w.part(1, 0));
        w.mask(0, 0, 3, false);
        Check.refused("there is none now", Check.INDEX, () -> w.part(0, 0));
        FreeWavelets read = Check.fedWith("0001 0000 00000 1 011");
        read.decode(Check.ALL);
        Check.refused("those that were read do not count", Check.INDEX, () -> read.part(0, 0));
    }

    private static void partOfAPart() {
        Doc.says(PART, "Of a PART how many samples it has (what = 0), its first sample's x (1) and y (2);");
        FreeWavelets w = Check.picture(new int[] {OUT, OUT, 0, OUT}, new int[] {0, OUT, OUT, OUT}, new int[] {OUT, OUT, OUT, 0},
            new int[] {OUT, 0, 0, 0});
        int[][] parts = {{1, 2, 0}, {1, 0, 1}, {4, 3, 2}};
        Check.due("how many", parts.length, w.told(3));
        for (int k = 0; k < parts.length; k++) {
            for (int what = 0; what < 3; what++) {
                Check.due("part " + k + ", what = " + what, parts[k][what], w.part(k, what));
            }
        }
        FreeWavelets corner = new FreeWavelets(16, 16);
        corner.mask(15, 15, 1, true);
        Check.due("the last sample's x", 15, corner.part(0, 1));
        Check.due("the last sample's y", 15, corner.part(0, 2));
        for (int y = 0; y < 16; y++) {
            corner.mask(0, y, 16, true);
        }
        Check.due("all samples", 256, corner.part(0, 0));
        Check.due("the first sample's x", 0, corner.part(0, 1));
        Check.due("the first sample's y", 0, corner.part(0, 2));
    }

    private static void partOfAnotherWhat() {
        Doc.says(PART, "NONE for another what.");
        FreeWavelets w = Check.picture(new int[] {OUT, 5, 5});
        for (int what : new int[] {-1, 3, 4, Integer.MIN_VALUE, Integer.MAX_VALUE}) {
            Check.due("what = " + what, FreeWavelets.NONE, w.part(0, what));
        }
        Check.due("NONE", -1, FreeWavelets.NONE);
    }

    private static void toldAre(String what, FreeWavelets w, int first, int... want) {
        for (int i = 0; i < want.length; i++) {
            Check.due(what + ", what = " + (first + i), want[i], w.told(first + i));
        }
    }

    private static void toldAsItIsNow() {
        Doc.says(TOLD, "int told(int what): The width (what = 0), the height (1), samples INSIDE (2), PARTS (3), PLANES (4),"
            + " bits of the HEAD (5), of these as it is now;");
        FreeWavelets w = new FreeWavelets(3, 2);
        toldAre("at first", w, 0, 3, 2, 0, 0, 0, 13 + 5);
        w.put(0, 0, 3, 255);
        toldAre("values outside", w, 0, 3, 2, 0, 0, 0, 13 + 5);
        w.mask(0, 0, 1, true);
        toldAre("one inside", w, 0, 3, 2, 1, 1, 8, 13 + 1 + 3 + 5);
        w.mask(2, 0, 1, true);
        toldAre("two inside", w, 0, 3, 2, 2, 2, 8, 13 + 1 + 3 + 3 + 3 + 5);
        w.encode(Check.ALL);
        w.put(0, 0, 3, 0);
        toldAre("as it is, not as the stream is", w, 0, 3, 2, 2, 2, 0, 13 + 1 + 3 + 3 + 3 + 5);
        w.mask(1, 0, 1, true);
        w.mask(0, 1, 3, true);
        toldAre("all inside", w, 0, 3, 2, 6, 1, 0, 13 + 1 + 5);
        w.mask(0, 0, 3, false);
        w.mask(0, 1, 3, false);
        toldAre("none again", w, 0, 3, 2, 0, 0, 0, 13 + 5);
        toldAre("16 times 16", new FreeWavelets(16, 16), 0, 16, 16, 0, 0, 0, 13 + 17);
        toldAre("1 times 1", new FreeWavelets(1, 1), 0, 1, 1, 0, 0, 0, 13 + 3);
    }

    private static void toldOfTheStream() {
        Doc.says(TOLD, "bits of the STREAM that was made latest (6);");
        FreeWavelets w = Check.picture(new int[] {5, 0});
        Check.due("none was made", 0, w.told(6));
        w.encode(Check.ALL);
        Check.due("all", 28, w.told(6));
        w.put(0, 0, 2, 255);
        w.error(3, 0);
        Check.due("as it was made", 28, w.told(6));
        Check.refused("another is refused", Check.ARGUMENT, () -> w.encode(-1));
        Check.due("the latest is the one before", 28, w.told(6));
        w.encode(5);
        Check.due("a shorter one", 5, w.told(6));
        w.encode(0);
        Check.due("one of no bits", 0, w.told(6));
    }

    private static void toldOfBytesFed() {
        Doc.says(TOLD, "bytes fed (7);");
        FreeWavelets w = Check.picture(new int[] {5, 0});
        Check.due("none", 0, w.told(7));
        w.encode(Check.ALL);
        Check.due("a stream was made alone", 0, w.told(7));
        w.pass(0, 3);
        w.feed(1);
        Check.due("four", 4, w.told(7));
        w.alter(0, 9);
        w.decode(Check.ALL);
        w.pass(0, 0);
        Check.due("as many", 4, w.told(7));
        Check.due("2,400", 2400, RefusalEdges.full().told(7));
    }

    private static void toldOfWhatWasRead() {
        Doc.says(TOLD, "the width and height of what was READ (8, 9), its samples INSIDE (10), PARTS (11), PLANES (12),");
        FreeWavelets w = Check.fedWith("0010 0001 00011 1 010 010 011 011");
        w.decode(Check.ALL);
        toldAre("three times two", w, 8, 3, 2, 3, 2, 3);
        toldAre("the picture's own", w, 0, 1, 1, 0, 0, 0);
        w.mask(0, 0, 1, true);
        w.alter(0, 0xff);
        toldAre("as it was read", w, 8, 3, 2, 3, 2, 3);
        FreeWavelets none = Check.fedWith("1111 1111 10100 00000000 100000001");
        none.decode(Check.ALL);
        toldAre("none is inside, 20 planes", none, 8, 16, 16, 0, 0, 20);
        FreeWavelets all = Check.fedWith("1111 1111 00000 1 00000000 100000001");
        all.decode(Check.ALL);
        toldAre("all are inside, no planes", all, 8, 16, 16, 256, 1, 0);
        FreeWavelets least = Check.fedWith("0000 0000 00000 1 010");
        least.decode(Check.ALL);
        toldAre("one sample", least, 8, 1, 1, 1, 1, 0);
    }

    private static void toldOfNothingRead() {
        Doc.says(TOLD, "0 without such;");
        FreeWavelets w = Check.picture(new int[] {5, 0});
        toldAre("a new one", w, 6, 0, 0, 0, 0, 0, 0, 0);
        w.encode(Check.ALL);
        w.pass(0, 2400);
        toldAre("fed, but not read", w, 8, 0, 0, 0, 0, 0);
        w.decode(Check.ALL);
        toldAre("read", w, 8, 2, 1, 2, 1, 3);
        w.decode(16);
        toldAre("nothing, for the head is not whole", w, 8, 0, 0, 0, 0, 0);
        w.decode(17);
        toldAre("read again", w, 8, 2, 1, 2, 1, 3);
        w.alter(1, 0xff);
        w.decode(Check.ALL);
        toldAre("nothing, for there are too many planes", w, 8, 0, 0, 0, 0, 0);
        w.clear();
        toldAre("cleared", w, 6, 0, 0, 0, 0, 0, 0, 0);
    }

    private static void toldOfAnotherWhat() {
        Doc.says(TOLD, "NONE for another what.");
        FreeWavelets w = RefusalEdges.busy();
        for (int what : new int[] {-1, -2, 13, 14, 16, 256, Integer.MIN_VALUE, Integer.MAX_VALUE}) {
            Check.due("what = " + what, FreeWavelets.NONE, w.told(what));
        }
    }

    /** All of it is there: samples, a mask, a STREAM with zeros, bytes fed, and what was READ. */
    private static FreeWavelets cleared() {
        FreeWavelets w = RefusalEdges.busy();
        Check.due("before: a stream", 43, w.told(6));
        Check.due("before: what was read", 5, w.told(8));
        w.clear();
        return w;
    }

    private static void clearSamples() {
        Doc.says(CLEAR, "void clear(): All samples are 0,");
        FreeWavelets w = cleared();
        for (int y = 0; y < 3; y++) {
            Check.due("row " + y, 0, w.put(0, y, 5, 0));
            w.mask(0, y, 5, true);
        }
        Check.due("no planes", 0, w.told(4));
        FreeWavelets outside = new FreeWavelets(16, 16);
        outside.put(15, 15, 1, 255);
        outside.clear();
        Check.due("the last one, which was outside", 0, outside.put(15, 15, 1, 0));
    }

    private static void clearMask() {
        Doc.says(CLEAR, "none is INSIDE,");
        FreeWavelets w = cleared();
        toldAre("the same sides", w, 0, 5, 3, 0, 0, 0, 13 + 9);
        Check.inside("cleared", w, ".....", ".....", ".....");
        for (int y = 0; y < 3; y++) {
            Check.due("row " + y, 5, w.mask(0, y, 5, true));
        }
        w.clear();
        Check.refused("no part", Check.INDEX, () -> w.part(0, 0));
        Check.refused("no error of a part", Check.INDEX, () -> w.error(0, 0));
        Check.due("none", 0, w.told(2));
    }

    private static void clearStream() {
        Doc.says(CLEAR, "no STREAM was made,");
        FreeWavelets w = cleared();
        Check.due("no bits", 0, w.told(6));
        Check.refused("no byte", Check.INDEX, () -> w.byteAt(0));
        Check.refused("none to pass", Check.INDEX, () -> w.pass(0, 0));
        for (int level = 0; level < 4; level++) {
            Check.due("no zeros, level " + level, 0, w.zeros(level));
        }
        Check.due("one is made anew", 22, w.encode(Check.ALL));
        Check.due("its first byte", 0x42, w.byteAt(0));
    }

    private static void clearFedAndRead() {
        Doc.says(CLEAR, "nothing was fed or READ.");
        FreeWavelets w = cleared();
        Check.due("no bytes", 0, w.told(7));
        Check.refused("none to alter", Check.INDEX, () -> w.alter(0, 0));
        toldAre("nothing was read", w, 8, 0, 0, 0, 0, 0);
        Check.refused("nothing was read", Check.STATE, () -> w.at(0, 0));
        Check.due("nothing to read", FreeWavelets.NONE, w.decode(Check.ALL));
        Check.due("the first byte", 1, w.feed(9));
        FreeWavelets full = RefusalEdges.full();
        full.clear();
        Check.due("there is room", 1, full.feed(7));
        Check.due("for the first one", 7, full.alter(0, 0));
    }

    private static void clearAndBegin() {
        Doc.says(CLEAR, "All samples are 0, none is INSIDE, no STREAM was made, nothing was fed or READ.");
        FreeWavelets twice = cleared();
        twice.clear();
        toldAre("cleared twice", twice, 0, 5, 3, 0, 0, 0, 22, 0, 0, 0, 0, 0, 0, 0);
        FreeWavelets fresh = new FreeWavelets(2, 1);
        fresh.clear();
        toldAre("cleared at first", fresh, 0, 2, 1, 0, 0, 0, 16, 0, 0, 0, 0, 0, 0, 0);
        Check.row(fresh, 0, 5, 0);
        Check.due("drawn and made", 28, fresh.encode(Check.ALL));
        Check.made("drawn and made", STREAM, fresh);
        fresh.pass(0, 2400);
        Check.due("read", 28, fresh.decode(Check.ALL));
        Check.seen("read", fresh, new int[] {5, 0});
    }
}
