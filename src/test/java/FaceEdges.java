import java.lang.reflect.Constructor;
import java.lang.reflect.Executable;
import java.lang.reflect.Field;
import java.lang.reflect.Method;
import java.lang.reflect.Modifier;
import java.util.ArrayList;
import java.util.List;

/** What the document says before its terms: what the class is, for how many calls, and its public face. */
final class FaceEdges {
    private static final String WHAT = "What it is";
    private static final String FACE = "The public face";
    private static final int OUT = Check.OUT;
    private static final String[] MEMBERS = {
        "public static final int NONE = -1;",
        "public FreeWavelets(int width, int height);",
        "public int mask(int x, int y, int n, boolean on)"
            + " throws IndexOutOfBoundsException, IllegalArgumentException;",
        "public int put(int x, int y, int n, int v) throws IndexOutOfBoundsException, IllegalArgumentException;",
        "public int wave(int x, int y) throws IndexOutOfBoundsException;",
        "public int encode(int bits) throws IllegalArgumentException;",
        "public int byteAt(int i) throws IndexOutOfBoundsException;",
        "public int zeros(int level) throws IllegalArgumentException;",
        "public long error(int bits, int part) throws IllegalArgumentException, IndexOutOfBoundsException;",
        "public int feed(int b) throws IllegalArgumentException, UnsupportedOperationException;",
        "public int pass(int from, int n)"
            + " throws IndexOutOfBoundsException, IllegalArgumentException, UnsupportedOperationException;",
        "public int alter(int i, int b) throws IndexOutOfBoundsException, IllegalArgumentException;",
        "public int decode(int bits) throws IllegalArgumentException;",
        "public int at(int x, int y) throws IllegalStateException, IndexOutOfBoundsException;",
        "public int part(int k, int what) throws IndexOutOfBoundsException;",
        "public int told(int what);",
        "public void clear();",
    };

    private FaceEdges() {
    }

    static void all() {
        Doc.each(FaceEdges::anyShape, FaceEdges::calls, FaceEdges::theClass);
        for (String member : MEMBERS) {
            Doc.each(() -> isThere(member));
        }
    }

    private static void anyShape() {
        Doc.says(WHAT, "Pictures of any shape as wavelets: a mask by runs, lifting along what is inside, part by part,"
            + " planes of bits from the highest on with sets of zeros told at once; cut at any bit, read as far as it"
            + " goes, with the error that is left.");
        int[][] ring = {
            {OUT, 90, 91, 95, 102, OUT, OUT},
            {80, 84, OUT, OUT, 110, 255, OUT},
            {77, OUT, 13, 12, OUT, 120, OUT},
            {70, 72, OUT, OUT, 119, 0, OUT},
            {OUT, 66, 60, 61, 99, OUT, 200}};
        int all = Check.picture(ring).encode(Check.ALL);
        int head = Check.picture(ring).told(5);
        long before = Long.MAX_VALUE;
        for (int cut = 1; cut <= all; cut++) {
            FreeWavelets w = Check.picture(ring);
            Check.due("parts", 3, w.told(3));
            Check.due("encode(" + cut + ")", cut, w.encode(cut));
            w.pass(0, w.told(6));
            Check.due("decode(" + cut + ")", cut < head ? FreeWavelets.NONE : cut, w.decode(cut));
            long left = w.error(cut, 0) + w.error(cut, 1) + w.error(cut, 2);
            Check.due("behind " + cut + " bits as much is left as before, or less", 1, left <= before ? 1 : 0);
            before = left;
            if (cut == all) {
                Check.seen("all bits", w, ring);
            }
        }
        Check.due("behind all bits nothing is left", 0, before);
    }

    private static void calls() {
        Doc.says(WHAT, "An object is used for at most 512 calls after it has been made; what later calls answer is free.");
        FreeWavelets fed = new FreeWavelets(1, 1);
        for (int i = 1; i < 512; i++) {
            Check.due("call " + i, i, fed.feed(i & 255));
        }
        Check.due("call 512, told(7)", 511, fed.told(7));
        FreeWavelets drawn = new FreeWavelets(16, 16);
        for (int i = 0; i < 256; i++) {
            Check.due("mask " + i, 1, drawn.mask(i % 16, i / 16, 1, true));
        }
        for (int i = 0; i < 255; i++) {
            Check.due("put " + i, 1, drawn.put(i % 16, i / 16, 1, 9));
        }
        Check.due("call 512, told(3)", 1, drawn.told(3));
        dearCalls();
    }

    // The noise takes 144 calls; 8 times 46 more make 512.
    private static void dearCalls() {
        FreeWavelets w = Check.noise();
        FreeWavelets twin = Check.noise();
        int bits = twin.encode(Check.ALL);
        int cut = bits / 2;
        long left = twin.error(cut, 0);
        FreeWavelets twinSeen = Check.fedUpTo((bits + 7) / 8);
        twinSeen.decode(Check.ALL);
        for (int i = 1; i <= 46; i++) {
            String what = "round " + i + ", ";
            Check.due(what + "encode", bits, w.encode(Check.ALL));
            Check.due(what + "error", left, w.error(cut, 0));
            Check.due(what + "byteAt", twin.byteAt(i), w.byteAt(i));
            Check.due(what + "zeros", twin.zeros(i % 4), w.zeros(i % 4));
            Check.due(what + "pass", i == 1 ? (bits + 7) / 8 : 0, w.pass(0, i == 1 ? 2400 : 0));
            Check.due(what + "decode", bits, w.decode(Check.ALL));
            Check.due(what + "at", twinSeen.at(i % 16, 7), w.at(i % 16, 7));
            Check.due(what + "wave", twin.wave(i % 16, 5), w.wave(i % 16, 5));
        }
    }

    private static void theClass() {
        Doc.says(FACE, "public final class FreeWavelets {");
        Check.due("public and final", Modifier.PUBLIC | Modifier.FINAL, FreeWavelets.class.getModifiers());
        Check.due("members that can be seen", MEMBERS.length, seenMembers().size());
    }

    private static void isThere(String member) {
        Doc.says(FACE, member);
        // The names of parameters are not kept in a class.
        String wanted = member.replaceAll("(int|boolean) \\w+(?=[,)])", "$1");
        int there = 0;
        for (String text : seenMembers()) {
            there += text.equals(wanted) ? 1 : 0;
        }
        Check.due("members like this", 1, there);
    }

    /** All but the private ones, written as the document has them. */
    private static List<String> seenMembers() {
        List<String> texts = new ArrayList<>();
        for (Field f : FreeWavelets.class.getDeclaredFields()) {
            if (!Modifier.isPrivate(f.getModifiers())) {
                texts.add(Modifier.toString(f.getModifiers()) + " " + f.getType() + " " + f.getName() + " = "
                    + FreeWavelets.NONE + ";");
            }
        }
        for (Constructor<?> c : FreeWavelets.class.getDeclaredConstructors()) {
            if (!Modifier.isPrivate(c.getModifiers())) {
                texts.add(text(c, "", c.getName()));
            }
        }
        for (Method m : FreeWavelets.class.getDeclaredMethods()) {
            if (!Modifier.isPrivate(m.getModifiers()) && !m.isSynthetic()) {
                texts.add(text(m, m.getReturnType() + " ", m.getName()));
            }
        }
        return texts;
    }

    private static String text(Executable e, String type, String name) {
        String refusals = names(e.getExceptionTypes());
        return Modifier.toString(e.getModifiers()) + " " + type + name + "(" + names(e.getParameterTypes()) + ")"
            + (refusals.isEmpty() ? "" : " throws " + refusals) + ";";
    }

    private static String names(Class<?>[] types) {
        List<String> names = new ArrayList<>();
        for (Class<?> type : types) {
            names.add(type.getSimpleName());
        }
        return String.join(", ", names);
    }
}
