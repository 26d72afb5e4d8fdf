import java.io.IOException;
import java.lang.reflect.Constructor;
import java.lang.reflect.Field;
import java.lang.reflect.Member;
import java.lang.reflect.Method;
import java.lang.reflect.Modifier;
import java.nio.file.Files;
import java.nio.file.Path;
import java.util.ArrayList;
import java.util.Arrays;
import java.util.Collections;
import java.util.HashSet;
import java.util.List;
import java.util.Set;

/** The document's face, and the rules of LANGUAGE.md that can be seen from outside or in the text. */
public final class FaceTests {
    private static final String[] FACE = {
        "public static final int FreeWavelets.NONE",
        "public FreeWavelets(int,int)",
        "public int FreeWavelets.mask(int,int,int,boolean)"
            + " throws java.lang.IndexOutOfBoundsException,java.lang.IllegalArgumentException",
        "public int FreeWavelets.put(int,int,int,int)"
            + " throws java.lang.IndexOutOfBoundsException,java.lang.IllegalArgumentException",
        "public int FreeWavelets.wave(int,int) throws java.lang.IndexOutOfBoundsException",
        "public int FreeWavelets.encode(int) throws java.lang.IllegalArgumentException",
        "public int FreeWavelets.byteAt(int) throws java.lang.IndexOutOfBoundsException",
        "public int FreeWavelets.zeros(int) throws java.lang.IllegalArgumentException",
        "public long FreeWavelets.error(int,int)"
            + " throws java.lang.IllegalArgumentException,java.lang.IndexOutOfBoundsException",
        "public int FreeWavelets.feed(int)"
            + " throws java.lang.IllegalArgumentException,java.lang.UnsupportedOperationException",
        "public int FreeWavelets.pass(int,int) throws java.lang.IndexOutOfBoundsException,"
            + "java.lang.IllegalArgumentException,java.lang.UnsupportedOperationException",
        "public int FreeWavelets.alter(int,int)"
            + " throws java.lang.IndexOutOfBoundsException,java.lang.IllegalArgumentException",
        "public int FreeWavelets.decode(int) throws java.lang.IllegalArgumentException",
        "public int FreeWavelets.at(int,int)"
            + " throws java.lang.IllegalStateException,java.lang.IndexOutOfBoundsException",
        "public int FreeWavelets.part(int,int) throws java.lang.IndexOutOfBoundsException",
        "public int FreeWavelets.told(int)",
        "public void FreeWavelets.clear()",
    };
    private static final String[] REFUSED = {"->", "::", "catch", "finally", "synchronized", "assert ", "Exact(",
        "package ", "System.out", "equals(", "hashCode", "toString", "instanceof"};

    public static void main(String[] args) throws IOException {
        face();
        classesInside();
        source(Files.readAllLines(Path.of("src/main/java/FreeWavelets.java")));
        Check.end();
    }

    private static void face() {
        Class<?> c = FreeWavelets.class;
        Check.due("public and final", Modifier.PUBLIC | Modifier.FINAL, c.getModifiers());
        List<String> got = new ArrayList<>();
        for (Member member : members(c)) {
            if (!Modifier.isPrivate(member.getModifiers())) {
                got.add(text(member));
            }
        }
        List<String> want = new ArrayList<>(Arrays.asList(FACE));
        Collections.sort(got);
        Collections.sort(want);
        if (!got.equals(want)) {
            Check.fail("the face is " + got + ", due is " + want);
        }
    }

    private static List<Member> members(Class<?> c) {
        List<Member> members = new ArrayList<>();
        members.addAll(Arrays.asList(c.getDeclaredFields()));
        members.addAll(Arrays.asList(c.getDeclaredConstructors()));
        members.addAll(Arrays.asList(c.getDeclaredMethods()));
        members.removeIf(Member::isSynthetic);
        return members;
    }

    private static String text(Member member) {
        if (member instanceof Field f) {
            return f.toGenericString();
        }
        return member instanceof Method m ? m.toGenericString() : ((Constructor<?>) member).toGenericString();
    }

    private static void classesInside() {
        Set<String> names = new HashSet<>();
        for (Method m : FreeWavelets.class.getDeclaredMethods()) {
            if (Modifier.isPublic(m.getModifiers())) {
                names.add(m.getName());
            }
        }
        Class<?>[] inside = FreeWavelets.class.getDeclaredClasses();
        Check.due("some twelve classes at most", 1, inside.length < 12 ? 1 : 0);
        for (Class<?> c : inside) {
            Check.due(c + " is static", 1, Modifier.isStatic(c.getModifiers()) ? 1 : 0);
            Check.due(c + " is not public", 0, c.getModifiers() & (Modifier.PUBLIC | Modifier.PROTECTED));
            for (Member member : members(c)) {
                if (member instanceof Method && names.contains(member.getName())) {
                    Check.fail(text(member) + " bears the name of a public one");
                }
                boolean field = member instanceof Field;
                if (field && Modifier.isStatic(member.getModifiers()) && !Modifier.isFinal(member.getModifiers())) {
                    Check.fail(text(member) + " is static state");
                }
            }
        }
    }

    private static void source(List<String> lines) {
        int method = 0;
        for (int i = 0; i < lines.size(); i++) {
            String line = lines.get(i);
            String code = line.strip().startsWith("*") || line.strip().startsWith("/") ? "" : line;
            if (code.startsWith("import ") && !code.equals("import java.util.Arrays;")) {
                Check.fail("line " + (i + 1) + " imports " + code);
            }
            for (String refused : REFUSED) {
                if (code.contains(refused)) {
                    Check.fail("line " + (i + 1) + " has " + refused);
                }
            }
            // Nothing is made by a call: all calls of a run live in one room.
            if (code.contains("new ") && !code.contains("throw new ") && !code.contains(" final ")) {
                Check.fail("line " + (i + 1) + " makes an object in a call");
            }
            method = code.isBlank() ? 0 : method + 1;
            Check.due("line " + (i + 1) + ": some sixty lines without a gap", 1, method < 60 ? 1 : 0);
        }
    }
}
