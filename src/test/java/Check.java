/** What the tests share: answers and exceptions that are due, and pictures and streams to begin with. */
final class Check {
    static final Class<?> INDEX = IndexOutOfBoundsException.class;
    static final Class<?> ARGUMENT = IllegalArgumentException.class;
    static final Class<?> STATE = IllegalStateException.class;
    static final Class<?> ROOM = UnsupportedOperationException.class;
    static final int ALL = 60000;
    private static int wrong;

    interface Call {
        long answer();
    }

    private Check() {
    }

    static void due(String what, long want, long got) {
        if (want != got) {
            fail(what + " answered " + got + ", due is " + want);
        }
    }

    // The class itself is compared: an exception of the machine is often a child of the one that is due.
    static void refused(String what, Class<?> want, Call call) {
        Class<?> got = null;
        try {
            call.answer();
        } catch (RuntimeException e) {
            got = e.getClass();
        }
        if (got != want) {
            fail(what + " threw " + got + ", due is " + want);
        }
    }

    static void fail(String text) {
        wrong++;
        if (wrong <= 50) {
            System.out.println(text);
        }
    }

    static void end() {
        System.out.println(wrong == 0 ? "all answers are as due" : wrong + " answers are not as due");
        if (wrong != 0) {
            System.exit(1);
        }
    }

    /** Samples from the first of a row on, INSIDE with these values. */
    static void row(FreeWavelets w, int y, int... values) {
        for (int x = 0; x < values.length; x++) {
            w.mask(x, y, 1, true);
            w.put(x, y, 1, values[x]);
        }
    }

    /** 16 times 16 samples that differ wildly: a STREAM of some hundred bytes. */
    static FreeWavelets noise() {
        FreeWavelets w = new FreeWavelets(16, 16);
        for (int y = 0; y < 16; y++) {
            w.mask(0, y, 16, true);
            for (int x = y % 2; x < 16; x += 2) {
                w.put(x, y, 1, (x * 89 + y * 151 + x * y * 57) % 256);
            }
        }
        return w;
    }

    /** A new object fed with these bits, filled up to a byte with 0. */
    static FreeWavelets fedWith(String text) {
        FreeWavelets w = new FreeWavelets(1, 1);
        String bits = filled(text);
        for (int i = 0; i < bits.length(); i += 8) {
            w.feed(Integer.parseInt(bits.substring(i, i + 8), 2));
        }
        return w;
    }

    static void made(String what, String want, FreeWavelets w) {
        due(what + ": bits", want.replace(" ", "").length(), w.told(6));
        StringBuilder got = new StringBuilder();
        for (int i = 0; i * 8 < w.told(6); i++) {
            got.append(Integer.toBinaryString(256 + w.byteAt(i)).substring(1));
        }
        if (!got.toString().equals(filled(want))) {
            fail(what + " made " + got + ", due is " + filled(want));
        }
    }

    private static String filled(String text) {
        String bits = text.replace(" ", "");
        return bits + "0".repeat((8 - bits.length() % 8) % 8);
    }
}
