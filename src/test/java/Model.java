import java.util.ArrayList;
import java.util.Arrays;
import java.util.HashSet;
import java.util.List;
import java.util.Set;

/**
 * The document once more, in the plainest way and without a thought of speed: bits are text, rows are
 * lists, parts are found by growing, and what is KNOWN by so many bits is found by reading them.
 */
final class Model {
    private static final class Nothing extends RuntimeException {
        private static final long serialVersionUID = 1L;
    }

    /** What was READ. */
    private static final class Read {
        int planes;
        int taken;
        boolean[][] in;
        int[][] known;
        int[][] samples;
    }

    private final int width;
    private final int height;
    private int[][] samples;
    private boolean[][] in;
    private String made = "";
    private int[] left = new int[4];
    private final List<Integer> fed = new ArrayList<>();
    private Read read;

    Model(int width, int height) {
        this.width = Math.min(16, Math.max(1, width));
        this.height = Math.min(16, Math.max(1, height));
        clear();
    }

    void clear() {
        samples = new int[height][width];
        in = new boolean[height][width];
        made = "";
        left = new int[4];
        fed.clear();
        read = null;
    }

    int mask(int x, int y, int n, boolean on) {
        sample(in, x, y);
        argument(n >= 1);
        int changed = 0;
        for (long i = x; i < width && i < (long) x + n; i++) {
            changed += in[y][(int) i] == on ? 0 : 1;
            in[y][(int) i] = on;
        }
        return changed;
    }

    int put(int x, int y, int n, int v) {
        sample(in, x, y);
        argument(n >= 1 && v >= 0 && v <= 255);
        int changed = 0;
        for (long i = x; i < width && i < (long) x + n; i++) {
            changed += samples[y][(int) i] == v ? 0 : 1;
            samples[y][(int) i] = v;
        }
        return changed;
    }

    int wave(int x, int y) {
        sample(in, x, y);
        return in[y][x] ? waves()[y][x] : 100000;
    }

    int encode(int bits) {
        argument(bits >= 0 && bits <= 60000);
        left = new int[4];
        made = stream(bits, left);
        return made.length();
    }

    int byteAt(int i) {
        index(i >= 0 && i < bytes());
        return Integer.parseInt((made + "0000000").substring(8 * i, 8 * i + 8), 2);
    }

    int zeros(int level) {
        argument(level >= 0 && level <= 3);
        return left[level];
    }

    long error(int bits, int part) {
        argument(bits >= 0 && bits <= 60000);
        index(part >= 0 && part < count(parts(in)));
        Read cut = reading(stream(bits, new int[4]));
        int[][] waves = waves();
        int[][] parts = parts(in);
        long sum = 0;
        for (int y = 0; y < height; y++) {
            for (int x = 0; x < width; x++) {
                long rest = waves[y][x] - (cut == null ? 0 : cut.known[y][x]);
                sum += parts[y][x] == part ? rest * rest : 0;
            }
        }
        return sum;
    }

    int feed(int b) {
        argument(b >= 0 && b <= 255);
        room(fed.size() < 2400);
        fed.add(b);
        return fed.size();
    }

    int pass(int from, int n) {
        index(from >= 0 && from < bytes());
        argument(n >= 0);
        int end = (int) Math.min((long) from + n, bytes());
        room(fed.size() + end - from <= 2400);
        for (int i = from; i < end; i++) {
            fed.add(byteAt(i));
        }
        return end - from;
    }

    int alter(int i, int b) {
        index(i >= 0 && i < fed.size());
        argument(b >= 0 && b <= 255);
        return fed.set(i, b);
    }

    int decode(int bits) {
        argument(bits >= 0 && bits <= 60000);
        StringBuilder text = new StringBuilder();
        for (int b : fed) {
            text.append(binary(b, 8));
        }
        read = reading(text.substring(0, Math.min(bits, text.length())));
        return read == null ? -1 : read.taken;
    }

    int at(int x, int y) {
        if (read == null) {
            throw new IllegalStateException();
        }
        sample(read.in, x, y);
        return read.in[y][x] ? read.samples[y][x] : -1;
    }

    int part(int k, int what) {
        int[][] parts = parts(in);
        index(k >= 0 && k < count(parts));
        int many = 0;
        int first = -1;
        for (int i = 0; i < width * height; i++) {
            if (parts[i / width][i % width] == k) {
                first = many == 0 ? i : first;
                many++;
            }
        }
        return what == 0 ? many : what == 1 ? first % width : what == 2 ? first / width : -1;
    }

    int told(int what) {
        int[] now = {width, height, inside(in), count(parts(in)), planes(), head().length(), made.length(), fed.size()};
        int[] seen = read == null ? new int[5]
            : new int[] {read.in[0].length, read.in.length, inside(read.in), count(parts(read.in)), read.planes};
        return what < 0 || what > 12 ? -1 : what < 8 ? now[what] : seen[what - 8];
    }

    private static void sample(boolean[][] mask, int x, int y) {
        index(y >= 0 && y < mask.length && x >= 0 && x < mask[0].length);
    }

    private static void index(boolean fine) {
        if (!fine) {
            throw new IndexOutOfBoundsException();
        }
    }

    private static void argument(boolean fine) {
        if (!fine) {
            throw new IllegalArgumentException();
        }
    }

    private static void room(boolean fine) {
        if (!fine) {
            throw new UnsupportedOperationException();
        }
    }

    private int bytes() {
        return (made.length() + 7) / 8;
    }

    private static String binary(int number, int bits) {
        StringBuilder text = new StringBuilder(Integer.toBinaryString(number));
        while (text.length() < bits) {
            text.insert(0, '0');
        }
        return text.toString();
    }

    private static int inside(boolean[][] mask) {
        int many = 0;
        for (boolean[] row : mask) {
            for (boolean one : row) {
                many += one ? 1 : 0;
            }
        }
        return many;
    }

    /** Each sample takes the least number of itself and its neighbours till none changes; then they are counted. */
    private static int[][] parts(boolean[][] mask) {
        int h = mask.length;
        int w = mask[0].length;
        int[][] part = new int[h][w];
        for (int i = 0; i < w * h; i++) {
            part[i / w][i % w] = mask[i / w][i % w] ? i : -1;
        }
        boolean moved = true;
        while (moved) {
            moved = false;
            for (int i = 0; i < w * h; i++) {
                for (int[] to : new int[][] {{0, 1}, {1, 0}, {0, -1}, {-1, 0}}) {
                    int y = i / w + to[0];
                    int x = i % w + to[1];
                    if (y >= 0 && y < h && x >= 0 && x < w && mask[y][x] && part[y][x] < part[i / w][i % w]) {
                        part[i / w][i % w] = part[y][x];
                        moved = true;
                    }
                }
            }
        }
        List<Integer> roots = new ArrayList<>();
        for (int i = 0; i < w * h; i++) {
            if (part[i / w][i % w] == i) {
                roots.add(i);
            }
        }
        for (int i = 0; i < w * h; i++) {
            part[i / w][i % w] = roots.indexOf(part[i / w][i % w]);
        }
        return part;
    }

    private static int count(int[][] parts) {
        int most = -1;
        for (int[] row : parts) {
            for (int k : row) {
                most = Math.max(most, k);
            }
        }
        return most + 1;
    }

    private int[][] waves() {
        int[][] values = new int[height][];
        for (int y = 0; y < height; y++) {
            values[y] = samples[y].clone();
        }
        int[][] parts = parts(in);
        for (int step = 1; step <= 4; step *= 2) {
            for (boolean across : new boolean[] {true, false}) {
                for (List<int[]> row : rows(parts, step, across)) {
                    lift(values, row, step, across, 1);
                    lift(values, row, step, across, 0);
                }
            }
        }
        return values;
    }

    private static void liftBack(int[][] values, int[][] parts) {
        for (int step = 4; step >= 1; step /= 2) {
            for (boolean across : new boolean[] {false, true}) {
                for (List<int[]> row : rows(parts, step, across)) {
                    lift(values, row, step, across, -2);
                    lift(values, row, step, across, -1);
                }
            }
        }
    }

    /** The rows (or columns) of points of the same part, as long as may be. */
    private static List<List<int[]>> rows(int[][] parts, int step, boolean across) {
        List<List<int[]>> rows = new ArrayList<>();
        int lines = across ? parts.length : parts[0].length;
        int places = across ? parts[0].length : parts.length;
        for (int line = 0; line < lines; line += step) {
            int before = -1;
            for (int place = 0; place < places; place += step) {
                int[] point = across ? new int[] {place, line} : new int[] {line, place};
                int part = parts[point[1]][point[0]];
                if (part >= 0 && part != before) {
                    rows.add(new ArrayList<>());
                }
                if (part >= 0) {
                    rows.get(rows.size() - 1).add(point);
                }
                before = part;
            }
        }
        return rows;
    }

    /** kind: 1 the odd places, 0 the even ones; -1 and -2 the same back. */
    private static void lift(int[][] values, List<int[]> row, int step, boolean across, int kind) {
        boolean odd = kind == 1 || kind == -1;
        for (int i = 0; i < row.size(); i++) {
            int[] point = row.get(i);
            int place = (across ? point[0] : point[1]) / step;
            if (place % 2 == (odd ? 1 : 0) && row.size() > 1) {
                int[] a = row.get(i > 0 ? i - 1 : i + 1);
                int[] b = row.get(i < row.size() - 1 ? i + 1 : i - 1);
                int sum = values[a[1]][a[0]] + values[b[1]][b[0]];
                int change = odd ? -Math.floorDiv(sum, 2) : Math.floorDiv(sum + 2, 4);
                values[point[1]][point[0]] += kind >= 0 ? change : -change;
            }
        }
    }

    private int planes() {
        int[][] waves = waves();
        int most = 0;
        for (int y = 0; y < height; y++) {
            for (int x = 0; x < width; x++) {
                most = in[y][x] ? Math.max(most, Math.abs(waves[y][x])) : most;
            }
        }
        return most == 0 ? 0 : Integer.toBinaryString(most).length();
    }

    private String head() {
        StringBuilder text = new StringBuilder();
        text.append(binary(width - 1, 4)).append(binary(height - 1, 4)).append(binary(planes(), 5));
        boolean on = false;
        int i = 0;
        do {
            int end = i;
            while (end < width * height && in[end / width][end % width] == on) {
                end++;
            }
            String number = Integer.toBinaryString(end - i + 1);
            text.append("0".repeat(number.length() - 1)).append(number);
            on = !on;
            i = end;
        } while (i < width * height);
        return text.toString();
    }

    private String stream(int bits, int[] zeros) {
        StringBuilder text = new StringBuilder(head());
        List<int[]> leavings = new ArrayList<>();
        Set<String> open = new HashSet<>();
        int[][] waves = waves();
        for (int p = planes() - 1; p >= 0; p--) {
            for (int y = 0; y < height; y += 8) {
                for (int x = 0; x < width; x += 8) {
                    write(text, leavings, open, waves, new int[] {x, y, 8}, p);
                }
            }
        }
        for (int[] leaving : leavings) {
            if (leaving[0] < bits) {
                zeros[Integer.numberOfTrailingZeros(leaving[1])]++;
            }
        }
        return text.substring(0, Math.min(bits, text.length()));
    }

    private void write(StringBuilder text, List<int[]> leavings, Set<String> open, int[][] waves, int[] square, int p) {
        int most = -1;
        for (int y = square[1]; y < square[1] + square[2] && y < height; y++) {
            for (int x = square[0]; x < square[0] + square[2] && x < width; x++) {
                most = in[y][x] ? Math.max(most, Math.abs(waves[y][x])) : most;
            }
        }
        if (most < 0) {
            return;
        }
        boolean before = open.contains(Arrays.toString(square));
        if (!before && most < 1 << p) {
            leavings.add(new int[] {text.length(), square[2]});
            text.append('0');
            return;
        }
        if (!before) {
            text.append('1');
            open.add(Arrays.toString(square));
        }
        if (square[2] > 1) {
            for (int[] quarter : quarters(square)) {
                write(text, leavings, open, waves, quarter, p);
            }
            return;
        }
        int wave = waves[square[1]][square[0]];
        boolean one = before ? Math.abs(wave) / (1 << p) % 2 == 1 : wave < 0;
        text.append(one ? '1' : '0');
    }

    private static int[][] quarters(int[] square) {
        int half = square[2] / 2;
        int x = square[0];
        int y = square[1];
        return new int[][] {{x, y, half}, {x + half, y, half}, {x, y + half, half}, {x + half, y + half, half}};
    }

    /** null if it is NOTHING. */
    private static Read reading(String bits) {
        Read r = new Read();
        try {
            readHead(bits, r);
        } catch (Nothing e) {
            return null;
        }
        try {
            readPlanes(bits, r);
        } catch (Nothing e) {
            r.taken = bits.length();
        }
        r.samples = new int[r.in.length][];
        for (int y = 0; y < r.in.length; y++) {
            r.samples[y] = r.known[y].clone();
        }
        liftBack(r.samples, parts(r.in));
        for (int[] row : r.samples) {
            for (int x = 0; x < row.length; x++) {
                row[x] = row[x] < 0 ? 0 : row[x] > 255 ? 255 : row[x];
            }
        }
        return r;
    }

    private static String take(String bits, Read r, int many) {
        if (r.taken + many > bits.length()) {
            throw new Nothing();
        }
        r.taken += many;
        return bits.substring(r.taken - many, r.taken);
    }

    private static void readHead(String bits, Read r) {
        int w = Integer.parseInt(take(bits, r, 4), 2) + 1;
        int h = Integer.parseInt(take(bits, r, 4), 2) + 1;
        r.planes = Integer.parseInt(take(bits, r, 5), 2);
        r.in = new boolean[h][w];
        r.known = new int[h][w];
        if (r.planes > 20) {
            throw new Nothing();
        }
        int i = 0;
        for (int run = 0; i < w * h; run++) {
            int zeros = 0;
            while (take(bits, r, 1).equals("0")) {
                zeros++;
            }
            if (zeros >= 17) {
                throw new Nothing();
            }
            int length = Integer.parseInt("1" + take(bits, r, zeros), 2) - 1;
            if (length == 0 && run > 0 || i + length > w * h) {
                throw new Nothing();
            }
            for (int end = i + length; i < end; i++) {
                r.in[i / w][i % w] = run % 2 == 1;
            }
        }
    }

    private static void readPlanes(String bits, Read r) {
        Set<String> open = new HashSet<>();
        for (int p = r.planes - 1; p >= 0; p--) {
            for (int y = 0; y < r.in.length; y += 8) {
                for (int x = 0; x < r.in[0].length; x += 8) {
                    readSquare(bits, r, open, new int[] {x, y, 8}, p);
                }
            }
        }
    }

    private static void readSquare(String bits, Read r, Set<String> open, int[] square, int p) {
        boolean some = false;
        for (int y = square[1]; y < square[1] + square[2] && y < r.in.length; y++) {
            for (int x = square[0]; x < square[0] + square[2] && x < r.in[0].length; x++) {
                some = some || r.in[y][x];
            }
        }
        boolean before = open.contains(Arrays.toString(square));
        if (!some || !before && take(bits, r, 1).equals("0")) {
            return;
        }
        open.add(Arrays.toString(square));
        if (square[2] > 1) {
            for (int[] quarter : quarters(square)) {
                readSquare(bits, r, open, quarter, p);
            }
            return;
        }
        boolean one = take(bits, r, 1).equals("1");
        int[] row = r.known[square[1]];
        int x = square[0];
        if (!before) {
            row[x] = one ? -(1 << p) : 1 << p;
        } else if (one) {
            row[x] = Integer.signum(row[x]) * (Math.abs(row[x]) + (1 << p));
        }
    }
}
