/** What the tests share: answers and exceptions that are due, and pictures and streams to begin with. */
final class Check {
    static final Class<?> INDEX = IndexOutOfBoundsException.class;
    static final Class<?> ARGUMENT = IllegalArgumentException.class;
    static final Class<?> STATE = IllegalStateException.class;
    static final Class<?> ROOM = UnsupportedOperationException.class;
    static final int ALL = 60000;
    /** In a picture that is written down: a sample that is not INSIDE. */
    static final int OUT = -1;
    /** In waves that are written down: the same. */
    static final int NO_WAVE = Integer.MIN_VALUE;
    private static final int UNDER_OUT = 201;
    private static int wrong;
    private static int checks;
    private static String where = "";
    private static int wrongHere;

    interface Call {
        long answer();
    }

    private Check() {
    }

    /** What is checked from now on, for the text of what fails. */
    static void at(String place) {
        where = place;
        wrongHere = 0;
    }

    static int checks() {
        return checks;
    }

    static void due(String what, long want, long got) {
        checks++;
        if (want != got) {
            fail(what + " answered " + got + ", due is " + want);
        }
    }

    // The class itself is compared: an exception of the machine is often a child of the one that is due.
    static void refused(String what, Class<?> want, Call call) {
        checks++;
        Class<?> got = null;
        try {
            call.answer();
        } catch (RuntimeException e) {
            got = e.getClass();
        }
        if (got != want) {
            fail(what + " threw " + got + ", due is " + want);
        }
    }

    static void same(String what, String want, String got) {
        checks++;
        if (!want.equals(got)) {
            fail(what + " left or made " + got + ", due is " + want);
        }
    }

    static void fail(String text) {
        wrong++;
        wrongHere++;
        if (wrongHere <= 20) {
            System.out.println(where.isEmpty() ? text : where + ": " + text);
        }
    }

    static void end() {
        System.out.println(wrong == 0 ? "all answers are as due" : wrong + " answers are not as due");
        if (wrong != 0) {
            System.exit(1);
        }
    }

    /** Samples from the first of a row on, INSIDE with these values. */
    static void row(FreeWavelets w, int y, int... values) {
        for (int x = 0; x < values.length; x++) {
            w.mask(x, y, 1, true);
            w.put(x, y, 1, values[x]);
        }
    }

    /** A picture of these rows, with a value under each OUT that must not count. */
    static FreeWavelets picture(int[]... rows) {
        FreeWavelets w = new FreeWavelets(rows[0].length, rows.length);
        for (int y = 0; y < rows.length; y++) {
            for (int x = 0; x < rows[y].length; x++) {
                boolean in = rows[y][x] != OUT;
                w.put(x, y, 1, in ? rows[y][x] : UNDER_OUT);
                w.mask(x, y, 1, in);
            }
        }
        return w;
    }

    static void waves(String what, FreeWavelets w, int[]... want) {
        for (int y = 0; y < want.length; y++) {
            for (int x = 0; x < want[y].length; x++) {
                int due = want[y][x] == NO_WAVE ? 100000 : want[y][x];
                due(what + ", wave(" + x + ", " + y + ")", due, w.wave(x, y));
            }
        }
    }

    /** Rows of # where a sample is INSIDE. */
    static void inside(String what, FreeWavelets w, String... want) {
        for (int y = 0; y < want.length; y++) {
            for (int x = 0; x < want[y].length(); x++) {
                boolean in = w.wave(x, y) != 100000;
                due(what + ", inside(" + x + ", " + y + ")", want[y].charAt(x) == '#' ? 1 : 0, in ? 1 : 0);
            }
        }
    }

    /** The values of a picture of which none is INSIDE: one that is it alone has its value as its WAVE. */
    static void values(String what, FreeWavelets w, int[]... want) {
        for (int y = 0; y < want.length; y++) {
            for (int x = 0; x < want[y].length; x++) {
                w.mask(x, y, 1, true);
                due(what + ", value(" + x + ", " + y + ")", want[y][x], w.wave(x, y));
                w.mask(x, y, 1, false);
            }
        }
    }

    static void seen(String what, FreeWavelets w, int[]... want) {
        for (int y = 0; y < want.length; y++) {
            for (int x = 0; x < want[y].length; x++) {
                due(what + ", at(" + x + ", " + y + ")", want[y][x] == OUT ? FreeWavelets.NONE : want[y][x], w.at(x, y));
            }
        }
    }

    /** 16 times 16 samples that differ wildly: a STREAM of some hundred bytes. */
    static FreeWavelets noise() {
        FreeWavelets w = new FreeWavelets(16, 16);
        for (int y = 0; y < 16; y++) {
            w.mask(0, y, 16, true);
            for (int x = y % 2; x < 16; x += 2) {
                w.put(x, y, 1, (x * 89 + y * 151 + x * y * 57) % 256);
            }
        }
        return w;
    }

    /** A new object fed with these bits, filled up to a byte with 0. */
    static FreeWavelets fedWith(String text) {
        FreeWavelets w = new FreeWavelets(1, 1);
        String bits = filled(text);
        for (int i = 0; i < bits.length(); i += 8) {
            w.feed(Integer.parseInt(bits.substring(i, i + 8), 2));
        }
        return w;
    }

    /** The noise, encoded, and so many bytes fed, again and again those of its STREAM. */
    static FreeWavelets fedUpTo(int bytes) {
        FreeWavelets w = noise();
        w.encode(ALL);
        int rest = bytes;
        for (int calls = 0; calls < 100 && rest > 0; calls++) {
            rest -= w.pass(0, rest);
        }
        return w;
    }

    static void made(String what, String want, FreeWavelets w) {
        due(what + ": bits", want.replace(" ", "").length(), w.told(6));
        StringBuilder got = new StringBuilder();
        for (int i = 0; i * 8 < w.told(6); i++) {
            got.append(Integer.toBinaryString(256 + w.byteAt(i)).substring(1));
        }
        same(what, filled(want), got.toString());
    }

    private static String filled(String text) {
        String bits = text.replace(" ", "");
        return bits + "0".repeat((8 - bits.length() % 8) % 8);
    }
}
