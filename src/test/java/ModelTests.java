import java.util.Random;

/** Runs of calls, drawn by lot from fixed seeds, each answered as by the model. */
public final class ModelTests {
    private static final int[] ODD_NUMBERS = {-1, 0, 1, 2, 15, 16, 17, 255, 256, 2399, 2400, 2401, 60000, 60001,
        Integer.MIN_VALUE, Integer.MAX_VALUE, Integer.MAX_VALUE - 1, Integer.MIN_VALUE + 1};

    private final Random lot;
    private final String name;
    private FreeWavelets real;
    private Model model;
    private int calls;

    private ModelTests(String name, int seed) {
        this.lot = new Random(seed);
        this.name = name + " " + seed;
    }

    public static void main(String[] args) {
        for (int seed = 0; seed < 300; seed++) {
            new ModelTests("any calls", seed).anyCalls();
            new ModelTests("pictures", seed).pictures();
            new ModelTests("streams", seed).streams();
        }
        for (int seed = 0; seed < 60; seed++) {
            new ModelTests("cuts", seed).cuts();
            new ModelTests("steep pictures", seed).steepPictures();
        }
        Check.end();
    }

    private void begin(int width, int height) {
        real = new FreeWavelets(width, height);
        model = new Model(width, height);
        calls = 0;
    }

    private long same(String call, Check.Call ofReal, Check.Call ofModel) {
        calls++;
        long want = 0;
        Class<?> refusal = null;
        try {
            want = ofModel.answer();
        } catch (RuntimeException e) {
            refusal = e.getClass();
        }
        long got = 0;
        Class<?> thrown = null;
        try {
            got = ofReal.answer();
        } catch (RuntimeException e) {
            thrown = e.getClass();
        }
        if (want != got || refusal != thrown) {
            Check.fail(name + ", call " + calls + ": " + call + " answered " + got + " or threw " + thrown
                + ", due is " + want + " or " + refusal);
        }
        return want;
    }

    private int odd() {
        return ODD_NUMBERS[lot.nextInt(ODD_NUMBERS.length)];
    }

    private int mostlyBelow(int bound) {
        return lot.nextInt(12) == 0 ? odd() : lot.nextInt(Math.max(1, bound));
    }

    private int side() {
        return lot.nextInt(4) == 0 ? 1 + lot.nextInt(3) : 1 + lot.nextInt(16);
    }

    private int value() {
        return lot.nextInt(3) == 0 ? 255 * lot.nextInt(2) : lot.nextInt(256);
    }

    private void mask(int x, int y, int n, boolean on) {
        same("mask(" + x + ", " + y + ", " + n + ", " + on + ")",
            () -> real.mask(x, y, n, on), () -> model.mask(x, y, n, on));
    }

    private void put(int x, int y, int n, int v) {
        same("put(" + x + ", " + y + ", " + n + ", " + v + ")", () -> real.put(x, y, n, v), () -> model.put(x, y, n, v));
    }

    private int encode(int bits) {
        return (int) same("encode(" + bits + ")", () -> real.encode(bits), () -> model.encode(bits));
    }

    private int decode(int bits) {
        return (int) same("decode(" + bits + ")", () -> real.decode(bits), () -> model.decode(bits));
    }

    private void error(int bits, int part) {
        same("error(" + bits + ", " + part + ")", () -> real.error(bits, part), () -> model.error(bits, part));
    }

    private void told(int what) {
        same("told(" + what + ")", () -> real.told(what), () -> model.told(what));
    }

    private void byteAt(int i) {
        same("byteAt(" + i + ")", () -> real.byteAt(i), () -> model.byteAt(i));
    }

    private void zeros(int level) {
        same("zeros(" + level + ")", () -> real.zeros(level), () -> model.zeros(level));
    }

    private void feed(int b) {
        same("feed(" + b + ")", () -> real.feed(b), () -> model.feed(b));
    }

    private void pass(int from, int n) {
        same("pass(" + from + ", " + n + ")", () -> real.pass(from, n), () -> model.pass(from, n));
    }

    private void alter(int i, int b) {
        same("alter(" + i + ", " + b + ")", () -> real.alter(i, b), () -> model.alter(i, b));
    }

    private void at(int x, int y) {
        same("at(" + x + ", " + y + ")", () -> real.at(x, y), () -> model.at(x, y));
    }

    private void wave(int x, int y) {
        same("wave(" + x + ", " + y + ")", () -> real.wave(x, y), () -> model.wave(x, y));
    }

    private void part(int k, int what) {
        same("part(" + k + ", " + what + ")", () -> real.part(k, what), () -> model.part(k, what));
    }

    private void clear() {
        calls++;
        real.clear();
        model.clear();
    }

    private void toldAll() {
        // What an object answers behind its 512th call is free.
        for (int what = 0; what <= 13 && calls < 512; what++) {
            told(what);
        }
    }

    private void anyCalls() {
        begin(lot.nextInt(8) == 0 ? odd() : side(), lot.nextInt(8) == 0 ? odd() : side());
        int width = model.told(0);
        int height = model.told(1);
        while (calls < 512) {
            anyCall(width, height);
        }
    }

    private void anyCall(int width, int height) {
        switch (lot.nextInt(20)) {
            case 0, 1, 2 -> mask(mostlyBelow(width), mostlyBelow(height), mostlyBelow(9), lot.nextInt(4) > 0);
            case 3, 4, 5 -> put(mostlyBelow(width), mostlyBelow(height), mostlyBelow(9), mostlyBelow(256));
            case 6 -> wave(mostlyBelow(width), mostlyBelow(height));
            case 7 -> encode(mostlyBelow(model.told(6) + 40));
            case 8 -> encode(60000);
            case 9 -> byteAt(mostlyBelow(model.told(6) / 8 + 2));
            case 10 -> zeros(mostlyBelow(5));
            case 11 -> error(mostlyBelow(model.told(6) + 40), mostlyBelow(model.told(3) + 1));
            case 12 -> feed(mostlyBelow(256));
            case 13 -> pass(lot.nextInt(3) > 0 ? 0 : mostlyBelow(model.told(6) / 8 + 2), lot.nextInt(2) == 0 ? 2400 : mostlyBelow(60));
            case 14 -> alter(mostlyBelow(model.told(7) + 1), mostlyBelow(256));
            case 15 -> decode(lot.nextInt(2) == 0 ? 60000 : mostlyBelow(model.told(7) * 8 + 9));
            case 16 -> at(mostlyBelow(model.told(8) + 1), mostlyBelow(model.told(9) + 1));
            case 17 -> part(mostlyBelow(model.told(3) + 1), mostlyBelow(4));
            case 18 -> told(mostlyBelow(14));
            default -> rarely();
        }
    }

    private void rarely() {
        if (lot.nextInt(6) == 0) {
            clear();
        } else {
            toldAll();
        }
    }

    private void draw(int width, int height) {
        int dense = 1 + lot.nextInt(4);
        int strokes = lot.nextInt(100);
        for (int i = 0; i < strokes; i++) {
            mask(lot.nextInt(width), lot.nextInt(height), 1 + lot.nextInt(16 / dense), lot.nextInt(5) > 0);
        }
        for (int i = lot.nextInt(100); i > 0; i--) {
            put(lot.nextInt(width), lot.nextInt(height), 1 + lot.nextInt(5), value());
        }
    }

    private void pictures() {
        int width = side();
        int height = side();
        begin(width, height);
        draw(width, height);
        for (int i = 0; i < 30; i++) {
            wave(lot.nextInt(width), lot.nextInt(height));
        }
        for (int k = 0; k < Math.min(10, model.told(3) + 1); k++) {
            part(k, k % 4);
        }
        int bits = encode(60000);
        for (int level = 0; level < 4; level++) {
            zeros(level);
        }
        for (int i = 0; i < 40; i++) {
            byteAt(lot.nextInt(bits / 8 + 1));
        }
        pass(0, 2400);
        Check.due(name + ": taken", bits, decode(60000));
        toldAll();
        for (int i = 0; i < 100; i++) {
            at(lot.nextInt(width), lot.nextInt(height));
        }
    }

    /** A head that is mostly sound, and behind it what the lot gives. */
    private void streams() {
        begin(1, 1);
        int width = side();
        int height = side();
        StringBuilder bits = new StringBuilder();
        append(bits, width - 1, 4);
        append(bits, height - 1, 4);
        append(bits, lot.nextInt(22), 5);
        int rest = width * height;
        boolean first = true;
        while (rest > 0) {
            int length = Math.min(rest + (lot.nextInt(300) == 0 ? 1 : 0), (first || lot.nextInt(200) == 0 ? 0 : 1) + lot.nextInt(40));
            String number = Integer.toBinaryString(length + 1);
            bits.append("0".repeat(number.length() - 1)).append(number);
            rest -= length;
            first = false;
        }
        int ones = 1 + lot.nextInt(9);
        while (bits.length() < 8 * 200) {
            bits.append(lot.nextInt(10) < ones ? '1' : '0');
        }
        for (int i = 0; i < 200; i++) {
            feed(Integer.parseInt(bits.substring(8 * i, 8 * i + 8), 2));
        }
        decode(60000);
        for (int i = 0; i < 6; i++) {
            toldAll();
            for (int k = 0; k < 30; k++) {
                at(lot.nextInt(width), lot.nextInt(height));
            }
            alter(lot.nextInt(200), lot.nextInt(256));
            decode(lot.nextInt(2) == 0 ? 60000 : lot.nextInt(1601));
        }
    }

    private static void append(StringBuilder bits, int number, int many) {
        for (int i = many - 1; i >= 0; i--) {
            bits.append((number >> i) & 1);
        }
    }

    /** Every cut of a small picture: its bits, its error, and what is read of it. */
    private void cuts() {
        int width = 1 + lot.nextInt(10);
        int height = 1 + lot.nextInt(3);
        begin(width, height);
        for (int y = 0; y < height; y++) {
            mask(lot.nextInt(width), y, 1 + lot.nextInt(4), true);
            put(0, y, 16, value());
            put(lot.nextInt(width), y, 2, value());
        }
        int bits = encode(60000);
        pass(0, 2400);
        for (int cut = 0; cut <= bits + 1 && calls < 500; cut++) {
            decode(cut);
            at(lot.nextInt(width), lot.nextInt(height));
            error(cut, lot.nextInt(Math.max(1, model.told(3))));
        }
    }

    /** Samples of 0 and 255 only, for the greatest waves. */
    private void steepPictures() {
        begin(16, 16);
        for (int y = 0; y < 16; y++) {
            mask(0, y, 16, true);
            for (int x = 0; x < 16; x++) {
                if (lot.nextInt(2) == 0) {
                    put(x, y, 1, 255);
                }
            }
        }
        for (int i = lot.nextInt(60); i > 0; i--) {
            mask(lot.nextInt(16), lot.nextInt(16), 1, false);
        }
        int bits = encode(60000);
        pass(0, 2400);
        pass(0, 2400);
        decode(60000);
        for (int i = 0; i < 100; i++) {
            at(lot.nextInt(16), lot.nextInt(16));
        }
        error(bits / 2, 0);
        toldAll();
    }
}
