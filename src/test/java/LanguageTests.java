import java.io.IOException;
import java.lang.reflect.Constructor;
import java.lang.reflect.Field;
import java.lang.reflect.Member;
import java.lang.reflect.Method;
import java.lang.reflect.Modifier;
import java.nio.file.Files;
import java.nio.file.Path;
import java.util.ArrayList;
import java.util.Arrays;
import java.util.HashSet;
import java.util.List;
import java.util.Set;

/** The rules of LANGUAGE.md that can be seen from outside or in the text. FaceEdges has the face itself. */
public final class LanguageTests {
    private static final String[] REFUSED = {"->", "::", "catch", "finally", "synchronized", "assert ", "Exact(",
        "package ", "System.out", "equals(", "hashCode", "toString", "instanceof"};

    public static void main(String[] args) throws IOException {
        classesInside();
        source(Files.readAllLines(Path.of("src/main/java/FreeWavelets.java")));
        Check.end();
    }

    private static List<Member> members(Class<?> c) {
        List<Member> members = new ArrayList<>();
        members.addAll(Arrays.asList(c.getDeclaredFields()));
        members.addAll(Arrays.asList(c.getDeclaredConstructors()));
        members.addAll(Arrays.asList(c.getDeclaredMethods()));
        members.removeIf(Member::isSynthetic);
        return members;
    }

    private static String text(Member member) {
        if (member instanceof Field f) {
            return f.toGenericString();
        }
        return member instanceof Method m ? m.toGenericString() : ((Constructor<?>) member).toGenericString();
    }

    private static void classesInside() {
        Set<String> names = new HashSet<>();
        for (Method m : FreeWavelets.class.getDeclaredMethods()) {
            if (Modifier.isPublic(m.getModifiers())) {
                names.add(m.getName());
            }
        }
        Class<?>[] inside = FreeWavelets.class.getDeclaredClasses();
        Check.due("some twelve classes at most", 1, inside.length < 12 ? 1 : 0);
        for (Class<?> c : inside) {
            Check.due(c + " is static", 1, Modifier.isStatic(c.getModifiers()) ? 1 : 0);
            Check.due(c + " is not public", 0, c.getModifiers() & (Modifier.PUBLIC | Modifier.PROTECTED));
            for (Member member : members(c)) {
                if (member instanceof Method && names.contains(member.getName())) {
                    Check.fail(text(member) + " bears the name of a public one");
                }
                boolean field = member instanceof Field;
                if (field && Modifier.isStatic(member.getModifiers()) && !Modifier.isFinal(member.getModifiers())) {
                    Check.fail(text(member) + " is static state");
                }
            }
        }
    }

    private static void source(List<String> lines) {
        int method = 0;
        for (int i = 0; i < lines.size(); i++) {
            String line = lines.get(i);
            String code = line.strip().startsWith("*") || line.strip().startsWith("/") ? "" : line;
            if (code.startsWith("import ") && !code.equals("import java.util.Arrays;")) {
                Check.fail("line " + (i + 1) + " imports " + code);
            }
            for (String refused : REFUSED) {
                if (code.contains(refused)) {
                    Check.fail("line " + (i + 1) + " has " + refused);
                }
            }
            // Nothing is made by a call: all calls of a run live in one room.
            if (code.contains("new ") && !code.contains("throw new ") && !code.contains(" final ")) {
                Check.fail("line " + (i + 1) + " makes an object in a call");
            }
            method = code.isBlank() ? 0 : method + 1;
            Check.due("line " + (i + 1) + ": some sixty lines without a gap", 1, method < 60 ? 1 : 0);
        }
    }
}
