import java.util.ArrayList;
import java.util.List;

/** What the terms say of exceptions, for every call that has one. */
final class RefusalEdges {
    private static final String TERMS = "Terms";
    private static final int[] FAR = {Integer.MIN_VALUE, Integer.MIN_VALUE + 1, -2400, -17, -16, -1, 16, 17, 256, 2400, 60001,
        Integer.MAX_VALUE - 1, Integer.MAX_VALUE};

    private interface Made {
        FreeWavelets anew();
    }

    private interface Asked {
        long of(FreeWavelets w);
    }

    /** A call that is refused, of an object that was made so. */
    private record Case(String what, Class<?> want, Made made, Asked call) {
    }

    private RefusalEdges() {
    }

    static void all() {
        Doc.each(
            RefusalEdges::noSuchSample,
            RefusalEdges::noSuchByte,
            RefusalEdges::noSuchPart,
            RefusalEdges::nothingWasRead,
            RefusalEdges::noNumberThatIsTold,
            RefusalEdges::noRoom,
            RefusalEdges::theFirstOne,
            RefusalEdges::nothingChanges);
    }

    /** The picture, the latest STREAM, what was fed and what was READ are all different. */
    static FreeWavelets busy() {
        FreeWavelets w = new FreeWavelets(5, 3);
        w.mask(0, 0, 3, true);
        w.mask(4, 1, 1, true);
        w.put(0, 0, 5, 200);
        w.put(1, 0, 1, 7);
        w.put(4, 1, 1, 90);
        w.encode(Check.ALL);
        w.pass(0, 2400);
        w.decode(Check.ALL);
        w.feed(170);
        w.put(0, 0, 2, 33);
        w.mask(3, 2, 2, true);
        w.mask(4, 1, 1, false);
        w.encode(43);
        w.put(2, 0, 1, 255);
        return w;
    }

    /** 2,400 bytes were fed. */
    static FreeWavelets full() {
        return Check.fedUpTo(2400);
    }

    private static FreeWavelets almostFull() {
        return Check.fedUpTo(2399);
    }

    private static FreeWavelets fresh() {
        return new FreeWavelets(5, 3);
    }

    private static FreeWavelets fedAlone() {
        return Check.fedWith("0000 0000 00000 010");
    }

    private static FreeWavelets madeAlone() {
        FreeWavelets w = Check.picture(new int[] {3, 4});
        w.encode(Check.ALL);
        return w;
    }

    private static FreeWavelets readToNothing() {
        FreeWavelets w = busy();
        w.decode(0);
        return w;
    }

    private static FreeWavelets cleared() {
        FreeWavelets w = busy();
        w.clear();
        return w;
    }

    private static Case ofBusy(String what, Class<?> want, Asked call) {
        return new Case(what, want, RefusalEdges::busy, call);
    }

    private static void areRefused(List<Case> cases) {
        for (Case one : cases) {
            FreeWavelets w = one.made.anew();
            Check.refused(one.what, one.want, () -> one.call.of(w));
        }
    }

    private static void noSuchSample() {
        Doc.says(TERMS, "IndexOutOfBounds: there is no such sample, byte, or PART.");
        areRefused(samples());
        FreeWavelets w = busy();
        Check.due("the last sample: mask", 0, w.mask(4, 2, 1, true));
        Check.due("the last sample: put", 0, w.put(4, 2, 1, 0));
        Check.due("the last sample: wave", 0, w.wave(4, 2));
        Check.due("the last sample: at", FreeWavelets.NONE, w.at(4, 2));
    }

    private static List<Case> samples() {
        int[][] places = {{-1, 0}, {5, 0}, {0, -1}, {0, 3}, {-1, -1}, {5, 3}, {-1, 1}, {5, 1}, {4, 3}, {4, -1}, {-5, 2}};
        List<Case> cases = new ArrayList<>();
        for (int[] place : places) {
            addSample(cases, place[0], place[1]);
        }
        for (int far : FAR) {
            addSample(cases, far, 0);
            addSample(cases, 0, far);
        }
        return cases;
    }

    private static void addSample(List<Case> cases, int x, int y) {
        String place = "(" + x + ", " + y + ")";
        cases.add(ofBusy("mask on at " + place, Check.INDEX, w -> w.mask(x, y, 1, true)));
        cases.add(ofBusy("mask off at " + place, Check.INDEX, w -> w.mask(x, y, 1, false)));
        cases.add(ofBusy("put at " + place, Check.INDEX, w -> w.put(x, y, 1, 9)));
        cases.add(ofBusy("wave at " + place, Check.INDEX, w -> w.wave(x, y)));
        cases.add(ofBusy("at " + place, Check.INDEX, w -> w.at(x, y)));
    }

    private static void noSuchByte() {
        Doc.says(TERMS, "IndexOutOfBounds: there is no such sample, byte, or PART.");
        areRefused(bytes());
        FreeWavelets w = busy();
        int fed = w.told(7);
        Check.due("43 bits end in byte 5", w.byteAt(5), w.byteAt(5) & 0xe0);
        Check.due("the last byte is passed", 1, w.pass(5, 1));
        Check.due("the last byte that was fed", w.byteAt(5), w.alter(fed, 0));
    }

    private static List<Case> bytes() {
        List<Case> cases = new ArrayList<>();
        for (int i : new int[] {-1, 6, 7, Integer.MIN_VALUE, Integer.MAX_VALUE}) {
            cases.add(ofBusy("byteAt " + i, Check.INDEX, w -> w.byteAt(i)));
            cases.add(ofBusy("pass from " + i, Check.INDEX, w -> w.pass(i, 1)));
            cases.add(ofBusy("pass of none from " + i, Check.INDEX, w -> w.pass(i, 0)));
        }
        int fed = busy().told(7);
        for (int i : new int[] {-1, fed, fed + 1, 2399, 2400, Integer.MIN_VALUE, Integer.MAX_VALUE}) {
            cases.add(ofBusy("alter " + i, Check.INDEX, w -> w.alter(i, 1)));
        }
        cases.add(new Case("byteAt of no stream", Check.INDEX, RefusalEdges::fresh, w -> w.byteAt(0)));
        cases.add(new Case("pass of no stream", Check.INDEX, RefusalEdges::fresh, w -> w.pass(0, 1)));
        cases.add(new Case("alter of none", Check.INDEX, RefusalEdges::fresh, w -> w.alter(0, 1)));
        return cases;
    }

    private static void noSuchPart() {
        Doc.says(TERMS, "IndexOutOfBounds: there is no such sample, byte, or PART.");
        areRefused(parts());
        FreeWavelets w = busy();
        Check.due("the last part", 2, w.part(1, 0));
        Check.due("error of the last part", 0, w.error(Check.ALL, 1));
    }

    private static List<Case> parts() {
        List<Case> cases = new ArrayList<>();
        for (int k : new int[] {-1, 2, 3, 255, 256, Integer.MIN_VALUE, Integer.MAX_VALUE}) {
            for (int what : new int[] {0, 1, 2, 3, -1}) {
                cases.add(ofBusy("part " + k + ", " + what, Check.INDEX, w -> w.part(k, what)));
            }
            cases.add(ofBusy("error of part " + k, Check.INDEX, w -> w.error(9, k)));
        }
        cases.add(new Case("part of none", Check.INDEX, RefusalEdges::fresh, w -> w.part(0, 0)));
        cases.add(new Case("error of no part", Check.INDEX, RefusalEdges::fresh, w -> w.error(0, 0)));
        return cases;
    }

    private static void nothingWasRead() {
        Doc.says(TERMS, "IllegalState: nothing was READ.");
        areRefused(readings());
        Check.due("at when it was read", 200, busy().at(0, 0));
    }

    private static List<Case> readings() {
        return List.of(
            new Case("at of a new one", Check.STATE, RefusalEdges::fresh, w -> w.at(0, 0)),
            new Case("at when bytes were fed alone", Check.STATE, RefusalEdges::fedAlone, w -> w.at(0, 0)),
            new Case("at when a stream was made alone", Check.STATE, RefusalEdges::madeAlone, w -> w.at(0, 0)),
            new Case("at when it was nothing", Check.STATE, RefusalEdges::readToNothing, w -> w.at(0, 0)),
            new Case("at when it was cleared", Check.STATE, RefusalEdges::cleared, w -> w.at(0, 0)));
    }

    private static void noNumberThatIsTold() {
        Doc.says(TERMS, "IllegalArgument: another number is none that is told.");
        areRefused(numbers());
        FreeWavelets w = busy();
        Check.due("n of 1, a value of 0", 1, w.put(0, 0, 1, 0));
        Check.due("a value of 255", 1, w.put(0, 0, 1, 255));
        Check.due("pass of 0", 0, w.pass(0, 0));
        Check.due("0 bits", 0, w.encode(0));
        Check.due("level 0", 0, w.zeros(0));
        Check.due("level 3", 0, w.zeros(3));
    }

    private static List<Case> numbers() {
        List<Case> cases = new ArrayList<>();
        for (int n : new int[] {0, -1, Integer.MIN_VALUE}) {
            cases.add(ofBusy("mask on of " + n, Check.ARGUMENT, w -> w.mask(0, 1, n, true)));
            cases.add(ofBusy("mask off of " + n, Check.ARGUMENT, w -> w.mask(0, 0, n, false)));
            cases.add(ofBusy("put of " + n, Check.ARGUMENT, w -> w.put(0, 0, n, 9)));
        }
        for (int n : new int[] {-1, -2, Integer.MIN_VALUE}) {
            cases.add(ofBusy("pass of " + n, Check.ARGUMENT, w -> w.pass(0, n)));
        }
        for (int b : new int[] {-1, 256, -128, 511, Integer.MIN_VALUE, Integer.MAX_VALUE}) {
            cases.add(ofBusy("put of a value " + b, Check.ARGUMENT, w -> w.put(0, 0, 1, b)));
            cases.add(ofBusy("feed " + b, Check.ARGUMENT, w -> w.feed(b)));
            cases.add(ofBusy("alter to " + b, Check.ARGUMENT, w -> w.alter(0, b)));
        }
        for (int bits : new int[] {-1, 60001, Integer.MIN_VALUE, Integer.MAX_VALUE}) {
            cases.add(ofBusy("encode " + bits, Check.ARGUMENT, w -> w.encode(bits)));
            cases.add(ofBusy("error " + bits, Check.ARGUMENT, w -> w.error(bits, 0)));
            cases.add(ofBusy("decode " + bits, Check.ARGUMENT, w -> w.decode(bits)));
        }
        for (int level : new int[] {-1, 4, Integer.MIN_VALUE, Integer.MAX_VALUE}) {
            cases.add(ofBusy("zeros " + level, Check.ARGUMENT, w -> w.zeros(level)));
        }
        return cases;
    }

    private static void noRoom() {
        Doc.says(TERMS, "UnsupportedOperation: there is no room.");
        areRefused(rooms());
        Check.due("feed into room for one", 2400, almostFull().feed(1));
        Check.due("pass into room for one", 1, almostFull().pass(0, 1));
    }

    private static List<Case> rooms() {
        int all = Integer.MAX_VALUE;
        return List.of(
            new Case("feed when it is full", Check.ROOM, RefusalEdges::full, w -> w.feed(1)),
            new Case("pass when it is full", Check.ROOM, RefusalEdges::full, w -> w.pass(0, 1)),
            new Case("pass of all when it is full", Check.ROOM, RefusalEdges::full, w -> w.pass(0, all)),
            new Case("pass of two into room for one", Check.ROOM, RefusalEdges::almostFull, w -> w.pass(0, 2)),
            new Case("pass of all into room for one", Check.ROOM, RefusalEdges::almostFull, w -> w.pass(0, all)));
    }

    private static void theFirstOne() {
        Doc.says(TERMS, "Of several that a call names, the first one.");
        areRefused(several());
    }

    private static List<Case> several() {
        return List.of(
            ofBusy("mask: no sample, n", Check.INDEX, w -> w.mask(5, 0, 0, true)),
            ofBusy("put: no sample, n", Check.INDEX, w -> w.put(0, 3, 0, 1)),
            ofBusy("put: no sample, value", Check.INDEX, w -> w.put(-1, 0, 1, 256)),
            ofBusy("put: no sample, n, value", Check.INDEX, w -> w.put(0, -1, 0, -1)),
            ofBusy("error: bits below, no part", Check.ARGUMENT, w -> w.error(-1, 2)),
            ofBusy("error: bits above, no part", Check.ARGUMENT, w -> w.error(60001, -1)),
            new Case("feed: no byte, no room", Check.ARGUMENT, RefusalEdges::full, w -> w.feed(256)),
            new Case("feed: no byte below, no room", Check.ARGUMENT, RefusalEdges::full, w -> w.feed(-1)),
            ofBusy("pass: no such byte, n", Check.INDEX, w -> w.pass(6, -1)),
            new Case("pass: no stream, n", Check.INDEX, RefusalEdges::fresh, w -> w.pass(0, -1)),
            new Case("pass: no such byte, no room", Check.INDEX, RefusalEdges::full, w -> w.pass(-1, 1)),
            new Case("pass: no such byte, n, no room", Check.INDEX, RefusalEdges::full, w -> w.pass(2400, -1)),
            new Case("pass: n, no room", Check.ARGUMENT, RefusalEdges::full, w -> w.pass(0, -1)),
            ofBusy("alter: none there, no byte", Check.INDEX, w -> w.alter(-1, 256)),
            ofBusy("alter: none there, no byte below", Check.INDEX, w -> w.alter(2400, -1)),
            new Case("at: nothing read, no sample", Check.STATE, RefusalEdges::fresh, w -> w.at(5, 3)),
            new Case("at: nothing read, no sample below", Check.STATE, RefusalEdges::readToNothing, w -> w.at(-1, -1)));
    }

    private static void nothingChanges() {
        Doc.says(TERMS, "A call that throws changes nothing.");
        for (List<Case> cases : List.of(samples(), bytes(), parts(), readings(), numbers(), rooms(), several())) {
            for (Case one : cases) {
                FreeWavelets asked = one.made.anew();
                Check.refused(one.what, one.want, () -> one.call.of(asked));
                Check.same(one.what, allOf(one.made.anew()), allOf(asked));
            }
        }
    }

    /**
     * Whatever an object can be asked, in a text. Asking changes it, so that it is of no use any more. Of
     * long rows the start is asked, of bytes fed the end, too: there are 512 calls.
     */
    private static String allOf(FreeWavelets w) {
        StringBuilder text = new StringBuilder();
        int[] told = new int[13];
        for (int what = 0; what <= 12; what++) {
            told[what] = w.told(what);
            text.append(told[what]).append(' ');
        }
        for (int level = 0; level < 4; level++) {
            text.append(w.zeros(level)).append(' ');
        }
        for (int i = 0; i < Math.min(20, (told[6] + 7) / 8); i++) {
            text.append(w.byteAt(i)).append(' ');
        }
        for (int k = 0; k < told[3]; k++) {
            text.append(w.part(k, 0)).append(' ').append(w.part(k, 1)).append(' ').append(w.part(k, 2)).append(' ');
        }
        waves(text, w, told[0], told[1]);
        for (int i = 0; i < Math.min(20, told[8] * told[9]); i++) {
            text.append(w.at(i % told[8], i / told[8])).append(' ');
        }
        for (int i = 0; i < told[7]; i = i == 25 ? Math.max(26, told[7] - 5) : i + 1) {
            text.append(w.alter(i, 0)).append(' ');
        }
        // With all of them inside, waves tell each sample, also those that were outside.
        for (int y = 0; y < told[1]; y++) {
            w.mask(0, y, 16, true);
        }
        waves(text, w, told[0], told[1]);
        return text.toString();
    }

    private static void waves(StringBuilder text, FreeWavelets w, int width, int height) {
        for (int i = 0; i < Math.min(20, width * height); i++) {
            text.append(w.wave(i % width, i / width)).append(' ');
        }
    }
}
