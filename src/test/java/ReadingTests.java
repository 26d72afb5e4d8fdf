/** Promises 9 to 13: feed, pass, alter, decode, at. */
public final class ReadingTests {
    private static final String HEAD = "0010 0000 00011 1 011 010";
    private static final String PLANES = "1111 0 0  1 11  0 0";

    public static void main(String[] args) {
        feed();
        pass();
        alter();
        decode();
        decodeOfNothing();
        decodeBeyond();
        at();
        Check.end();
    }

    private static void feed() {
        FreeWavelets w = Check.noise();
        Check.refused("feed 256", Check.ARGUMENT, () -> w.feed(256));
        Check.refused("feed -1", Check.ARGUMENT, () -> w.feed(-1));
        Check.due("feed 255", 1, w.feed(255));
        Check.due("feed 0", 2, w.feed(0));
        fillUpTo(2399, w);
        Check.due("feed the last one", 2400, w.feed(77));
        Check.refused("feed without room", Check.ROOM, () -> w.feed(0));
        Check.refused("feed both", Check.ARGUMENT, () -> w.feed(256));
        Check.due("feed: fed", 2400, w.told(7));
        Check.due("feed: the first one", 255, w.alter(0, 0));
        Check.due("feed: the last one", 77, w.alter(2399, 0));
    }

    private static void fillUpTo(int bytes, FreeWavelets w) {
        w.encode(Check.ALL);
        for (int calls = 0; calls < 100 && w.told(7) < bytes; calls++) {
            w.pass(0, bytes - w.told(7));
        }
        Check.due("filled", bytes, w.told(7));
    }

    private static void pass() {
        FreeWavelets w = Check.noise();
        Check.refused("pass of no stream", Check.INDEX, () -> w.pass(0, 0));
        w.encode(Check.ALL);
        int bytes = (w.told(6) + 7) / 8;
        Check.due("pass of none", 0, w.pass(bytes - 1, 0));
        Check.due("pass of some", 2, w.pass(1, 2));
        Check.due("pass of the rest", 1, w.pass(bytes - 1, Integer.MAX_VALUE));
        Check.due("pass: fed", 3, w.told(7));
        Check.due("pass: first", w.byteAt(1), w.alter(0, 0));
        Check.due("pass: second", w.byteAt(2), w.alter(1, 0));
        Check.due("pass: last", w.byteAt(bytes - 1), w.alter(2, 0));
        Check.refused("pass from", Check.INDEX, () -> w.pass(bytes, 1));
        Check.refused("pass from below 0", Check.INDEX, () -> w.pass(-1, -1));
        Check.refused("pass n", Check.ARGUMENT, () -> w.pass(0, -1));
        fillUpTo(2399, w);
        Check.refused("pass without room", Check.ROOM, () -> w.pass(0, 2));
        Check.refused("pass n without room", Check.ARGUMENT, () -> w.pass(0, -2));
        Check.due("pass: nothing changed", 2399, w.told(7));
        Check.due("pass fits by the stream's end", 1, w.pass(bytes - 1, 9));
        Check.due("pass of none without room", 0, w.pass(0, 0));
        Check.refused("pass when full", Check.ROOM, () -> w.pass(0, 1));
    }

    private static void alter() {
        FreeWavelets w = new FreeWavelets(2, 2);
        Check.refused("alter of none", Check.INDEX, () -> w.alter(0, 0));
        w.feed(200);
        w.feed(3);
        Check.due("alter", 200, w.alter(0, 255));
        Check.due("alter again", 255, w.alter(0, 0));
        Check.due("alter another", 3, w.alter(1, 3));
        Check.refused("alter i", Check.INDEX, () -> w.alter(2, 0));
        Check.refused("alter i below 0", Check.INDEX, () -> w.alter(-1, 0));
        Check.refused("alter b", Check.ARGUMENT, () -> w.alter(0, 256));
        Check.refused("alter b below 0", Check.ARGUMENT, () -> w.alter(0, -1));
        Check.refused("alter both", Check.INDEX, () -> w.alter(2, 256));
        Check.due("alter: nothing changed", 0, w.alter(0, 1));
        Check.due("alter: how many", 2, w.told(7));
    }

    private static void decode() {
        FreeWavelets w = Check.fedWith(HEAD + PLANES);
        Check.due("decode", 31, w.decode(Check.ALL));
        // Back: 6 - floor(-2 / 4) = 7, -2 + 7 = 5.
        Check.due("decode (0, 0)", 7, w.at(0, 0));
        Check.due("decode (1, 0)", 5, w.at(1, 0));
        Check.due("decode: outside", -1, w.at(2, 0));
        Check.due("decode up to the head", 20, w.decode(20));
        Check.due("decode: nothing is known", 0, w.at(0, 0));
        Check.due("decode within the head", -1, w.decode(19));
        Check.refused("decode: nothing is read then", Check.STATE, () -> w.at(0, 0));
        Check.due("decode before the sign", 24, w.decode(24));
        Check.due("decode: not known yet", 0, w.at(0, 0));
        Check.due("decode behind the sign", 25, w.decode(25));
        Check.due("decode: 4", 4, w.at(0, 0));
        Check.refused("decode below 0", Check.ARGUMENT, () -> w.decode(-1));
        Check.refused("decode too far", Check.ARGUMENT, () -> w.decode(60001));
        w.alter(0, 255);
        w.clear();
        w.feed(0);
        Check.due("decode of too few", -1, w.decode(Check.ALL));
        Check.due("decode of none", -1, w.decode(0));
    }

    private static void nothing(String what, String bits) {
        FreeWavelets w = Check.fedWith(bits);
        Check.due(what, -1, w.decode(bits.replace(" ", "").length()));
        Check.refused(what, Check.STATE, () -> w.at(0, 0));
    }

    private static void decodeOfNothing() {
        Check.due("20 planes", 16, Check.fedWith("0000 0000 10100 010").decode(Check.ALL));
        nothing("21 planes", "0000 0000 10101 010");
        nothing("31 planes", "0000 0000 11111 010");
        Check.due("a first run of none", 17, Check.fedWith("0000 0000 00000 1 010").decode(Check.ALL));
        nothing("a second run of none", "0001 0000 00000 010 1 010");
        nothing("a third run of none", "0001 0000 00000 1 010 1 010");
        Check.due("a run to the last sample", 16, Check.fedWith("0001 0000 00000 011").decode(Check.ALL));
        nothing("a run beyond", "0001 0000 00000 00100");
        nothing("a later run beyond", "0001 0000 00000 010 011");
        nothing("16 bits 0", "0000 0000 00000 0000000000000000 10000000000000000");
        nothing("17 bits 0", "0000 0000 00000 00000000000000000 100000000000000000");
        nothing("32 bits 0", "0000 0000 00000 00000000000000000000000000000000 1" + "0".repeat(31) + "1 010");
        nothing("bits 0 to the end", "0000 0000 00000 00000000000");
        nothing("a run that is cut", "1111 1111 00000 00000000 10000");
        nothing("runs that are cut", "0001 0000 00000 010");
        nothing("a head that is cut", "0000 0000 0000");
        nothing("no bits", "");
    }

    private static void decodeBeyond() {
        FreeWavelets high = Check.fedWith("0000 0000 01001 1 010  1111 0 00000000");
        Check.due("a wave of 256", 30, high.decode(Check.ALL));
        Check.due("a sample above 255", 255, high.at(0, 0));
        FreeWavelets low = Check.fedWith("0000 0000 00001 1 010  1111 1");
        Check.due("a wave of -1", 22, low.decode(Check.ALL));
        Check.due("a sample below 0", 0, low.at(0, 0));
        FreeWavelets hollow = Check.fedWith("0000 0000 00010 1 010  1110  0");
        Check.due("open with nothing in it", 22, hollow.decode(Check.ALL));
        Check.due("open with nothing in it: sample", 0, hollow.at(0, 0));
        FreeWavelets most = Check.fedWith("0000 0000 10100 1 010  1111 0" + "1".repeat(19));
        Check.due("20 planes of 1", 41, most.decode(Check.ALL));
        Check.due("20 planes of 1: sample", 255, most.at(0, 0));
        FreeWavelets hole = Check.fedWith("0000 0000 10100 010  1111");
        Check.due("planes of nothing inside", 16, hole.decode(Check.ALL));
        Check.due("planes of nothing inside: told", 20, hole.told(12));
    }

    private static void at() {
        FreeWavelets w = Check.fedWith(HEAD + PLANES);
        Check.refused("at before", Check.STATE, () -> w.at(9, 9));
        w.decode(Check.ALL);
        // What was read is 3 wide, the object's own picture 1.
        Check.due("at", 5, w.at(1, 0));
        Check.due("at outside", -1, w.at(2, 0));
        Check.refused("at x", Check.INDEX, () -> w.at(3, 0));
        Check.refused("at x below 0", Check.INDEX, () -> w.at(-1, 0));
        Check.refused("at y", Check.INDEX, () -> w.at(0, 1));
        Check.refused("at y below 0", Check.INDEX, () -> w.at(0, Integer.MIN_VALUE));
        w.put(0, 0, 1, 99);
        w.mask(0, 0, 1, true);
        w.alter(0, 0);
        w.encode(Check.ALL);
        Check.due("at: what was read stays", 7, w.at(0, 0));
        Check.refused("decode refused", Check.ARGUMENT, () -> w.decode(60001));
        Check.due("at: a call that throws changes nothing", 5, w.at(1, 0));
    }
}
