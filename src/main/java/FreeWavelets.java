import java.util.Arrays;

/**
 * Pictures of any shape as wavelets: a mask by runs, lifting along what is inside, part by part,
 * planes of bits from the highest on with sets of zeros told at once; cut at any bit, read as far
 * as it goes, with the error that is left.
 */
public final class FreeWavelets {
    public static final int NONE = -1;

    private static final int SIDE = 16;
    private static final int SIDE_BITS = 4;
    private static final int SAMPLES = 256;
    private static final int MOST_VALUE = 255;
    private static final int MOST_BITS = 60000;
    private static final int ROOM = 2400;
    private static final int NO_WAVE = 100000;
    private static final int PLANES_BITS = 5;
    private static final int MOST_PLANES_READ = 20;
    private static final int MOST_ZEROS_READ = 16;
    private static final int LAST_SCALE = 2;
    private static final int TOP_LEVEL = 3;

    // The squares of all levels stand in one row: 256 of 1 sample, 64 of 2, 16 of 4 and 4 of 8 a side.
    private static final int[] FIRST_SQUARE = {0, 256, 320, 336};
    private static final int SQUARES = 340;

    private final Picture drawn = new Picture();
    private final Picture seen = new Picture();
    private final Bytes made = new Bytes();
    private final Bytes fed = new Bytes();
    private final Pen pen = new Pen(made);
    private final Eye eye = new Eye(fed);
    private final Tape ruler = new Tape();
    private final Walk writing = new Walk(pen, drawn);
    private final Walk reading = new Walk(eye, seen);
    private final Walk weighing = new Walk(ruler, drawn);
    private boolean wasRead;

    public FreeWavelets(int width, int height) {
        drawn.shape.resize(nearestSide(width), nearestSide(height));
    }

    public int mask(int x, int y, int n, boolean on) throws IndexOutOfBoundsException, IllegalArgumentException {
        if (!drawn.shape.has(x, y)) {
            throw new IndexOutOfBoundsException("there is no such sample");
        }
        if (n < 1) {
            throw new IllegalArgumentException("n is below 1");
        }
        return drawn.coverRun(x, y, n, on);
    }

    public int put(int x, int y, int n, int v) throws IndexOutOfBoundsException, IllegalArgumentException {
        if (!drawn.shape.has(x, y)) {
            throw new IndexOutOfBoundsException("there is no such sample");
        }
        if (n < 1) {
            throw new IllegalArgumentException("n is below 1");
        }
        if (v < 0 || v > MOST_VALUE) {
            throw new IllegalArgumentException("the value is not 0 .. 255");
        }
        return drawn.fillRun(x, y, n, v);
    }

    public int wave(int x, int y) throws IndexOutOfBoundsException {
        if (!drawn.shape.has(x, y)) {
            throw new IndexOutOfBoundsException("there is no such sample");
        }
        int i = sampleOf(x, y);
        if (!drawn.shape.inside[i]) {
            return NO_WAVE;
        }
        drawn.renew();
        return drawn.waves[i];
    }

    public int encode(int bits) throws IllegalArgumentException {
        if (bits < 0 || bits > MOST_BITS) {
            throw new IllegalArgumentException("bits are not 0 .. 60000");
        }
        drawn.renew();
        pen.start(bits);
        Head.write(pen, drawn);
        writing.go();
        return pen.place;
    }

    public int byteAt(int i) throws IndexOutOfBoundsException {
        if (!made.has(i)) {
            throw new IndexOutOfBoundsException("there is no such byte");
        }
        return made.get(i);
    }

    public int zeros(int level) throws IllegalArgumentException {
        if (level < 0 || level > TOP_LEVEL) {
            throw new IllegalArgumentException("the level is not 0 .. 3");
        }
        return writing.left[level];
    }

    public long error(int bits, int part) throws IllegalArgumentException, IndexOutOfBoundsException {
        if (bits < 0 || bits > MOST_BITS) {
            throw new IllegalArgumentException("bits are not 0 .. 60000");
        }
        drawn.renew();
        if (part < 0 || part >= drawn.shape.parts) {
            throw new IndexOutOfBoundsException("there is no such part");
        }
        ruler.start(bits);
        Head.write(ruler, drawn);
        weighing.go();
        return drawn.distance(weighing.known, part);
    }

    public int feed(int b) throws IllegalArgumentException, UnsupportedOperationException {
        if (b < 0 || b > MOST_VALUE) {
            throw new IllegalArgumentException("this is no byte");
        }
        if (fed.count >= ROOM) {
            throw new UnsupportedOperationException("there is no room");
        }
        fed.add(b);
        return fed.count;
    }

    public int pass(int from, int n)
            throws IndexOutOfBoundsException, IllegalArgumentException, UnsupportedOperationException {
        if (!made.has(from)) {
            throw new IndexOutOfBoundsException("there is no such byte");
        }
        if (n < 0) {
            throw new IllegalArgumentException("n is below 0");
        }
        int many = Math.min(n, made.count - from);
        if (many > ROOM - fed.count) {
            throw new UnsupportedOperationException("there is no room");
        }
        for (int i = 0; i < many; i++) {
            fed.add(made.get(from + i));
        }
        return many;
    }

    public int alter(int i, int b) throws IndexOutOfBoundsException, IllegalArgumentException {
        if (!fed.has(i)) {
            throw new IndexOutOfBoundsException("there is no such byte");
        }
        if (b < 0 || b > MOST_VALUE) {
            throw new IllegalArgumentException("this is no byte");
        }
        int before = fed.get(i);
        fed.set(i, b);
        return before;
    }

    public int decode(int bits) throws IllegalArgumentException {
        if (bits < 0 || bits > MOST_BITS) {
            throw new IllegalArgumentException("bits are not 0 .. 60000");
        }
        wasRead = false;
        eye.start(bits);
        if (!Head.read(eye, seen)) {
            return NONE;
        }
        seen.shape.findParts();
        reading.go();
        seen.restore(reading.known);
        wasRead = true;
        return eye.place;
    }

    public int at(int x, int y) throws IllegalStateException, IndexOutOfBoundsException {
        if (!wasRead) {
            throw new IllegalStateException("nothing was read");
        }
        if (!seen.shape.has(x, y)) {
            throw new IndexOutOfBoundsException("there is no such sample");
        }
        int i = sampleOf(x, y);
        return seen.shape.inside[i] ? seen.samples[i] : NONE;
    }

    public int part(int k, int what) throws IndexOutOfBoundsException {
        drawn.renew();
        if (k < 0 || k >= drawn.shape.parts) {
            throw new IndexOutOfBoundsException("there is no such part");
        }
        switch (what) {
            case 0:
                return drawn.shape.sizeOf[k];
            case 1:
                return columnOf(drawn.shape.firstOf[k]);
            case 2:
                return rowOf(drawn.shape.firstOf[k]);
            default:
                return NONE;
        }
    }

    public int told(int what) {
        drawn.renew();
        switch (what) {
            case 0:
                return drawn.shape.width;
            case 1:
                return drawn.shape.height;
            case 2:
                return drawn.shape.count;
            case 3:
                return drawn.shape.parts;
            case 4:
                return drawn.planes;
            case 5:
                return headBits();
            case 6:
                return pen.place;
            case 7:
                return fed.count;
            default:
                return toldOfSeen(what);
        }
    }

    public void clear() {
        drawn.wipe();
        pen.start(0);
        writing.forget();
        fed.count = 0;
        wasRead = false;
    }

    private int headBits() {
        ruler.start(MOST_BITS);
        Head.write(ruler, drawn);
        return ruler.place;
    }

    private int toldOfSeen(int what) {
        switch (what) {
            case 8:
                return wasRead ? seen.shape.width : 0;
            case 9:
                return wasRead ? seen.shape.height : 0;
            case 10:
                return wasRead ? seen.shape.count : 0;
            case 11:
                return wasRead ? seen.shape.parts : 0;
            case 12:
                return wasRead ? seen.planes : 0;
            default:
                return NONE;
        }
    }

    private static int nearestSide(int side) {
        return Math.max(1, Math.min(SIDE, side));
    }

    // Rows are always 16 apart, whatever the width is, so that no division is needed.
    private static int sampleOf(int x, int y) {
        return y * SIDE + x;
    }

    private static int columnOf(int sample) {
        return sample & (SIDE - 1);
    }

    private static int rowOf(int sample) {
        return sample >> SIDE_BITS;
    }

    private static int bitsOf(int number) {
        int bits = 0;
        while (bits < 31 && (number >> bits) > 0) {
            bits++;
        }
        return bits;
    }

    /** Which samples are INSIDE, and the PARTS that they make. */
    private static final class Shape {
        final boolean[] inside = new boolean[SAMPLES];
        final int[] partOf = new int[SAMPLES];
        final int[] sizeOf = new int[SAMPLES];
        final int[] firstOf = new int[SAMPLES];
        int width;
        int height;
        int parts;
        int count;
        private final int[] queue = new int[SAMPLES];

        void resize(int newWidth, int newHeight) {
            width = newWidth;
            height = newHeight;
            for (int i = 0; i < SAMPLES; i++) {
                inside[i] = false;
            }
            findParts();
        }

        boolean has(int x, int y) {
            return x >= 0 && x < width && y >= 0 && y < height;
        }

        /** NONE for a sample that is not INSIDE, and beyond the picture. */
        int partHere(int x, int y) {
            return has(x, y) ? partOf[sampleOf(x, y)] : NONE;
        }

        void findParts() {
            Arrays.fill(partOf, NONE);
            parts = 0;
            count = 0;
            for (int y = 0; y < height; y++) {
                for (int x = 0; x < width; x++) {
                    int i = sampleOf(x, y);
                    if (inside[i] && partOf[i] == NONE && parts < SAMPLES) {
                        spread(i);
                    }
                }
            }
        }

        private void spread(int first) {
            int end = join(first, 0);
            for (int next = 0; next < end && next < SAMPLES; next++) {
                int i = queue[next];
                int x = columnOf(i);
                int y = rowOf(i);
                end = has(x - 1, y) ? join(i - 1, end) : end;
                end = has(x + 1, y) ? join(i + 1, end) : end;
                end = has(x, y - 1) ? join(i - SIDE, end) : end;
                end = has(x, y + 1) ? join(i + SIDE, end) : end;
            }
            firstOf[parts] = first;
            sizeOf[parts] = end;
            count += end;
            parts++;
        }

        // A sample joins when it is queued, not when its turn comes: so none is queued twice.
        private int join(int sample, int end) {
            if (!inside[sample] || partOf[sample] != NONE || end >= SAMPLES) {
                return end;
            }
            partOf[sample] = parts;
            queue[end] = sample;
            return end + 1;
        }
    }

    /** LIFTING of values, there and back, along rows and columns of POINTS of the same PART. */
    private static final class Lifting {
        private final Shape shape;
        private final int[] values;

        Lifting(Shape shape, int[] values) {
            this.shape = shape;
            this.values = values;
        }

        void forth() {
            for (int scale = 0; scale <= LAST_SCALE; scale++) {
                sweep(scale, true, 1, 1);
                sweep(scale, true, 0, 1);
                sweep(scale, false, 1, 1);
                sweep(scale, false, 0, 1);
            }
        }

        void back() {
            for (int scale = LAST_SCALE; scale >= 0; scale--) {
                sweep(scale, false, 0, -1);
                sweep(scale, false, 1, -1);
                sweep(scale, true, 0, -1);
                sweep(scale, true, 1, -1);
            }
        }

        // Points of one parity look at those of the other alone, so all rows can be swept in place.
        private void sweep(int scale, boolean across, int parity, int sign) {
            int step = 1 << scale;
            int right = across ? step : 0;
            int down = across ? 0 : step;
            for (int y = 0; y < shape.height; y += step) {
                for (int x = 0; x < shape.width; x += step) {
                    int place = (across ? x : y) >> scale;
                    if ((place & 1) == parity) {
                        values[sampleOf(x, y)] += sign * change(x, y, right, down, parity);
                    }
                }
            }
        }

        private int change(int x, int y, int right, int down, int parity) {
            int part = shape.partHere(x, y);
            if (part == NONE) {
                return 0;
            }
            boolean before = shape.partHere(x - right, y - down) == part;
            boolean behind = shape.partHere(x + right, y + down) == part;
            if (!before && !behind) {
                return 0;
            }
            int near = before ? values[sampleOf(x - right, y - down)] : values[sampleOf(x + right, y + down)];
            int far = behind ? values[sampleOf(x + right, y + down)] : near;
            // Shifts, for these round down below 0 too.
            return parity == 1 ? -((near + far) >> 1) : (near + far + 2) >> 2;
        }
    }

    /** Samples with their WAVES: worked out forth for the picture drawn, back for the one that was READ. */
    private static final class Picture {
        final Shape shape = new Shape();
        final int[] samples = new int[SAMPLES];
        final int[] waves = new int[SAMPLES];
        int planes;
        private final Lifting lifting = new Lifting(shape, waves);
        private boolean stale;

        int coverRun(int x, int y, int n, boolean on) {
            int many = Math.min(n, shape.width - x);
            int changed = 0;
            for (int i = 0; i < many; i++) {
                int sample = sampleOf(x + i, y);
                if (shape.inside[sample] != on) {
                    shape.inside[sample] = on;
                    changed++;
                }
            }
            stale = stale || changed > 0;
            return changed;
        }

        int fillRun(int x, int y, int n, int v) {
            int many = Math.min(n, shape.width - x);
            int changed = 0;
            for (int i = 0; i < many; i++) {
                int sample = sampleOf(x + i, y);
                if (samples[sample] != v) {
                    samples[sample] = v;
                    changed++;
                }
            }
            stale = stale || changed > 0;
            return changed;
        }

        /** Many calls ask for PARTS and WAVES between two changes; they are worked out once. */
        void renew() {
            if (!stale) {
                return;
            }
            shape.findParts();
            System.arraycopy(samples, 0, waves, 0, SAMPLES);
            lifting.forth();
            int greatest = 0;
            for (int i = 0; i < SAMPLES; i++) {
                if (shape.inside[i]) {
                    greatest = Math.max(greatest, Math.abs(waves[i]));
                }
            }
            planes = bitsOf(greatest);
            stale = false;
        }

        // Waves are 0 again, so that nothing of an earlier reading is left.
        void begin(int width, int height, int newPlanes) {
            shape.resize(width, height);
            Arrays.fill(waves, 0);
            planes = newPlanes;
        }

        void restore(int[] known) {
            System.arraycopy(known, 0, waves, 0, SAMPLES);
            lifting.back();
            for (int i = 0; i < SAMPLES; i++) {
                samples[i] = Math.max(0, Math.min(MOST_VALUE, waves[i]));
            }
        }

        long distance(int[] known, int part) {
            long sum = 0;
            for (int i = 0; i < SAMPLES; i++) {
                if (shape.partOf[i] == part) {
                    long rest = (long) waves[i] - known[i];
                    sum += rest * rest;
                }
            }
            return sum;
        }

        void wipe() {
            shape.resize(shape.width, shape.height);
            Arrays.fill(samples, 0);
            stale = true;
        }
    }

    /** A row of bytes with room for 2,400. */
    private static final class Bytes {
        int count;
        private final byte[] row = new byte[ROOM];

        boolean has(int i) {
            return i >= 0 && i < count;
        }

        int get(int i) {
            return i >= 0 && i < ROOM ? row[i] & MOST_VALUE : 0;
        }

        void set(int i, int b) {
            if (i >= 0 && i < ROOM) {
                row[i] = (byte) b;
            }
        }

        void add(int b) {
            if (count >= 0 && count < ROOM) {
                row[count] = (byte) b;
                count++;
            }
        }
    }

    /** Bits in turn up to a limit. This one only counts them, for what is asked of a STREAM that nobody keeps. */
    private static class Tape {
        int place;
        boolean ended;
        private int limit;

        void start(int bits) {
            place = 0;
            ended = false;
            limit = bits;
        }

        /** The bit at this place: the one that is due where it is written; NONE behind the limit. */
        final int next(int due) {
            if (place >= limit) {
                ended = true;
                return NONE;
            }
            int bit = pick(due);
            place++;
            return bit;
        }

        int pick(int due) {
            return due;
        }

        final void say(int number, int bits) {
            for (int i = bits - 1; i >= 0; i--) {
                next((number >> i) & 1);
            }
        }

        /** NONE if the bits end before the number does. */
        final int hear(int bits) {
            int number = 0;
            for (int i = 0; i < bits; i++) {
                int bit = next(0);
                if (bit == NONE) {
                    return NONE;
                }
                number = number * 2 + bit;
            }
            return number;
        }
    }

    /** A tape that writes. */
    private static final class Pen extends Tape {
        private final Bytes bytes;

        Pen(Bytes bytes) {
            this.bytes = bytes;
        }

        void start(int bits) {
            super.start(Math.min(bits, ROOM * 8));
            bytes.count = 0;
        }

        int pick(int due) {
            int i = place >> 3;
            if (i == bytes.count) {
                bytes.add(0);
            }
            bytes.set(i, bytes.get(i) | due << (7 - (place & 7)));
            return due;
        }
    }

    /** A tape that reads, and does not care what is due. */
    private static final class Eye extends Tape {
        private final Bytes bytes;

        Eye(Bytes bytes) {
            this.bytes = bytes;
        }

        void start(int bits) {
            super.start(Math.min(bits, bytes.count * 8));
        }

        int pick(int due) {
            return (bytes.get(place >> 3) >> (7 - (place & 7))) & 1;
        }
    }

    /** The HEAD of a STREAM: sides, PLANES and the RUNS of the mask. */
    private static final class Head {
        static void write(Tape tape, Picture picture) {
            Shape shape = picture.shape;
            tape.say(shape.width - 1, SIDE_BITS);
            tape.say(shape.height - 1, SIDE_BITS);
            tape.say(picture.planes, PLANES_BITS);
            boolean on = false;
            int length = 0;
            for (int y = 0; y < shape.height; y++) {
                for (int x = 0; x < shape.width; x++) {
                    if (shape.inside[sampleOf(x, y)] != on) {
                        writeRun(tape, length);
                        on = !on;
                        length = 0;
                    }
                    length++;
                }
            }
            writeRun(tape, length);
        }

        /** False if it is NOTHING. */
        static boolean read(Tape tape, Picture picture) {
            int width = tape.hear(SIDE_BITS) + 1;
            int height = tape.hear(SIDE_BITS) + 1;
            int planes = tape.hear(PLANES_BITS);
            if (planes == NONE || planes > MOST_PLANES_READ) {
                return false;
            }
            picture.begin(width, height, planes);
            return readRuns(tape, picture.shape);
        }

        private static void writeRun(Tape tape, int length) {
            int bits = bitsOf(length + 1);
            tape.say(0, bits - 1);
            tape.say(length + 1, bits);
        }

        private static boolean readRuns(Tape tape, Shape shape) {
            boolean on = false;
            int left = readRun(tape);
            if (left == NONE) {
                return false;
            }
            for (int y = 0; y < shape.height; y++) {
                for (int x = 0; x < shape.width; x++) {
                    if (left == 0) {
                        left = readRun(tape);
                        on = !on;
                    }
                    if (left < 1) {
                        return false;
                    }
                    shape.inside[sampleOf(x, y)] = on;
                    left--;
                }
            }
            return left == 0;
        }

        private static int readRun(Tape tape) {
            int zeros = 0;
            int bit = tape.next(0);
            while (bit == 0 && zeros < MOST_ZEROS_READ) {
                zeros++;
                bit = tape.next(0);
            }
            if (bit != 1) {
                return NONE;
            }
            int rest = tape.hear(zeros);
            return rest == NONE ? NONE : (1 << zeros) + rest - 1;
        }
    }

    /**
     * Going through the squares, plane by plane. Who writes and who reads go the same way, with the
     * tape between them: what is KNOWN at its end is the same for both.
     */
    private static final class Walk {
        final int[] known = new int[SAMPLES];
        final int[] left = new int[TOP_LEVEL + 1];
        private final Tape tape;
        private final Picture picture;
        private final int[] greatest = new int[SQUARES];
        private final boolean[] open = new boolean[SQUARES];
        private int plane;

        Walk(Tape tape, Picture picture) {
            this.tape = tape;
            this.picture = picture;
        }

        void go() {
            forget();
            measure();
            for (plane = picture.planes - 1; plane >= 0; plane--) {
                for (int square = 0; square < 4; square++) {
                    goThrough(TOP_LEVEL, square & 1, square >> 1);
                }
            }
        }

        void forget() {
            Arrays.fill(known, 0);
            Arrays.fill(left, 0);
            for (int i = 0; i < SQUARES; i++) {
                open[i] = false;
            }
        }

        // The greatest WAVE of each square, or NONE if nothing in it is INSIDE.
        private void measure() {
            Arrays.fill(greatest, NONE);
            for (int i = 0; i < SAMPLES; i++) {
                if (picture.shape.inside[i]) {
                    greatest[i] = Math.abs(picture.waves[i]);
                }
            }
            for (int level = 1; level <= TOP_LEVEL; level++) {
                int side = SIDE >> level;
                for (int row = 0; row < side; row++) {
                    for (int column = 0; column < side; column++) {
                        greatest[squareOf(level, column, row)] = greatestBelow(level, column, row);
                    }
                }
            }
        }

        private int greatestBelow(int level, int column, int row) {
            int most = NONE;
            for (int quarter = 0; quarter < 4; quarter++) {
                int below = squareOf(level - 1, column * 2 + (quarter & 1), row * 2 + (quarter >> 1));
                most = Math.max(most, greatest[below]);
            }
            return most;
        }

        private static int squareOf(int level, int column, int row) {
            return FIRST_SQUARE[level] + (row << (SIDE_BITS - level)) + column;
        }

        private void goThrough(int level, int column, int row) {
            if (tape.ended || level < 0) {
                return;
            }
            int square = squareOf(level, column, row);
            if (greatest[square] == NONE) {
                return;
            }
            boolean wasOpen = open[square];
            if (!wasOpen && !opens(level, square)) {
                return;
            }
            if (level == 0) {
                learn(square, wasOpen);
                return;
            }
            for (int quarter = 0; quarter < 4; quarter++) {
                goThrough(level - 1, column * 2 + (quarter & 1), row * 2 + (quarter >> 1));
            }
        }

        private boolean opens(int level, int square) {
            int bit = tape.next(greatest[square] >= 1 << plane ? 1 : 0);
            if (bit == 0) {
                left[level]++;
            }
            open[square] = bit == 1;
            return open[square];
        }

        // Squares of level 0 stand first in their row, so that their numbers are those of their samples.
        private void learn(int sample, boolean wasOpen) {
            int wave = picture.waves[sample];
            int weight = 1 << plane;
            if (!wasOpen) {
                int sign = tape.next(wave < 0 ? 1 : 0);
                known[sample] = sign == NONE ? 0 : sign == 1 ? -weight : weight;
            } else if (tape.next((Math.abs(wave) >> plane) & 1) == 1) {
                known[sample] += known[sample] < 0 ? -weight : weight;
            }
        }
    }
}
