import java.io.IOException;
import java.lang.reflect.Method;
import java.lang.reflect.Modifier;
import java.net.URL;
import java.net.URLClassLoader;
import java.nio.file.DirectoryStream;
import java.nio.file.Files;
import java.nio.file.Path;
import java.util.ArrayList;
import java.util.List;
import java.util.function.Supplier;
import java.util.regex.Matcher;
import java.util.regex.Pattern;
import javax.tools.JavaCompiler;
import javax.tools.ToolProvider;

/** The calls that README.md shows: each is made as it stands there, and answers what stands behind its arrow. */
public final class ReadmeTests {
    private static final Path README = Path.of("README.md");
    private static final Path TESTS = Path.of("src/test/java");
    private static final String EXAMPLE = "ReadmeExample";
    /** A call, the answer or exception behind an arrow, and perhaps a word on it behind a colon. */
    private static final Pattern SHOWN = Pattern.compile("\\s*(.*);\\s*// -> (-?\\d+|throws \\w+)(: .*)?");

    public static void main(String[] args) throws IOException, ReflectiveOperationException {
        List<String> readme = Files.readAllLines(README);
        List<String> lines = example(readme);
        answers(lines);
        everyCallIsShown(String.join("\n", lines));
        everyTestIsListed(String.join("\n", readme));
        Check.end();
    }

    /** All blocks of Java, as one piece: what the first one makes is used by those behind it. */
    private static List<String> example(List<String> readme) {
        List<String> lines = new ArrayList<>();
        boolean java = false;
        for (String line : readme) {
            if (line.startsWith("```")) {
                java = line.equals("```java");
            } else if (java) {
                lines.add(line);
            }
        }
        return lines;
    }

    private static void answers(List<String> lines) throws IOException, ReflectiveOperationException {
        StringBuilder code = new StringBuilder("public final class " + EXAMPLE
            + " implements java.util.function.Supplier<Object> {\n public Object get() {\n"
            + "  java.util.List<Object> said = new java.util.ArrayList<>();\n");
        List<String> shown = new ArrayList<>();
        List<String> due = new ArrayList<>();
        for (String line : lines) {
            Matcher m = SHOWN.matcher(line);
            if (m.matches()) {
                shown.add(m.group(1));
                due.add(m.group(2));
                code.append("  try { said.add(").append(m.group(1)).append("); } catch (RuntimeException e)")
                    .append(" { said.add(\"throws \" + e.getClass().getSimpleName()); }\n");
            } else if (line.contains("//")) {
                Check.fail("README.md says of a call what can't be tested: " + line);
            } else {
                code.append("  ").append(line).append("\n");
            }
        }
        List<?> got = said(code.append("  return said;\n }\n}\n").toString());
        Check.due("answers in README.md", due.size(), got.size());
        for (int i = 0; i < due.size() && i < got.size(); i++) {
            Check.same("README.md's " + shown.get(i), due.get(i), String.valueOf(got.get(i)));
        }
    }

    private static List<?> said(String code) throws IOException, ReflectiveOperationException {
        Path dir = Files.createTempDirectory("readme");
        try {
            Path source = Files.writeString(dir.resolve(EXAMPLE + ".java"), code);
            JavaCompiler javac = ToolProvider.getSystemJavaCompiler();
            int refused = javac.run(null, null, null, "--release", "17", "-Xlint:all", "-Werror",
                "-cp", System.getProperty("java.class.path"), "-d", dir.toString(), source.toString());
            if (refused != 0) {
                Check.fail("README.md's example does not compile");
                return List.of();
            }
            URL[] here = {dir.toUri().toURL()};
            try (URLClassLoader loader = new URLClassLoader(here, ReadmeTests.class.getClassLoader())) {
                Class<?> example = loader.loadClass(EXAMPLE);
                return (List<?>) ((Supplier<?>) example.getConstructor().newInstance()).get();
            }
        } finally {
            delete(dir);
        }
    }

    private static void delete(Path dir) throws IOException {
        try (DirectoryStream<Path> files = Files.newDirectoryStream(dir)) {
            for (Path file : files) {
                Files.delete(file);
            }
        }
        Files.delete(dir);
    }

    private static void everyCallIsShown(String example) {
        for (Method m : FreeWavelets.class.getDeclaredMethods()) {
            if (Modifier.isPublic(m.getModifiers()) && !example.contains("." + m.getName() + "(")) {
                Check.fail("README.md does not show how to use " + m.getName());
            }
        }
    }

    private static void everyTestIsListed(String readme) throws IOException {
        try (DirectoryStream<Path> files = Files.newDirectoryStream(TESTS, "*.java")) {
            for (Path file : files) {
                String name = file.getFileName().toString().replace(".java", "");
                if (!readme.contains("`" + name + "`")) {
                    Check.fail("README.md does not tell what " + name + " is");
                }
            }
        }
    }
}
