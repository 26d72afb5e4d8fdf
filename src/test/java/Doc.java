import java.io.IOException;
import java.nio.file.Files;
import java.nio.file.Path;
import java.util.BitSet;
import java.util.LinkedHashMap;
import java.util.Map;

/**
 * The document's sentences. A test of an edge begins with the one that it is of; at the end no word
 * before 'Not promised' may be left that no test has named.
 */
final class Doc {
    private static final Path PATH = Path.of("../shared/DOC.md");
    private static final Map<String, String> SECTIONS = new LinkedHashMap<>();
    private static final Map<String, BitSet> NAMED = new LinkedHashMap<>();
    private static int sentences;
    private static int checksBefore;

    private Doc() {
    }

    static void open() throws IOException {
        if (!Files.isReadable(PATH)) {
            System.out.println("there is no " + PATH + ": the tests' sentences are not compared with it");
            return;
        }
        for (String section : Files.readString(PATH).split("(?m)^## ")) {
            int end = section.indexOf('\n');
            String text = section.substring(end + 1).replaceAll("(?m)^```.*$", " ").replace("`", "");
            SECTIONS.put(section.substring(0, end).strip(), text.replaceAll("\\s+", " ").strip());
        }
    }

    /** What one test throws that is not due is its own fault: the others are run all the same. */
    static void each(Runnable... tests) {
        for (Runnable test : tests) {
            int before = sentences;
            try {
                test.run();
            } catch (RuntimeException e) {
                Check.fail("threw " + e);
            }
            if (sentences != before + 1) {
                Check.fail("a test is not of one sentence, but of " + (sentences - before));
            }
        }
    }

    /** The checks that follow are of this sentence, or part of one, of this section. */
    static void says(String section, String sentence) {
        somethingWasChecked();
        sentences++;
        Check.at(section + " - '" + sentence + "'");
        if (SECTIONS.isEmpty()) {
            return;
        }
        int start = SECTIONS.getOrDefault(section, "").indexOf(sentence);
        if (start < 0) {
            Check.fail("the document does not say so");
            return;
        }
        NAMED.computeIfAbsent(section, any -> new BitSet()).set(start, start + sentence.length());
    }

    static void end() {
        somethingWasChecked();
        for (String section : SECTIONS.keySet()) {
            // What is not promised is free: no test may ask for it.
            if (!section.equals("Not promised")) {
                allIsNamed(section);
            }
        }
        Check.at("");
        System.out.println(sentences + " sentences and parts of them, " + Check.checks() + " checks");
    }

    private static void somethingWasChecked() {
        if (sentences > 0 && Check.checks() == checksBefore) {
            Check.fail("nothing was checked");
        }
        checksBefore = Check.checks();
    }

    private static void allIsNamed(String section) {
        String text = SECTIONS.get(section);
        BitSet named = NAMED.getOrDefault(section, new BitSet());
        Check.at(section);
        for (int start = named.nextClearBit(0); start < text.length();) {
            int end = named.nextSetBit(start) < 0 ? text.length() : named.nextSetBit(start);
            String left = text.substring(start, end);
            if (left.chars().anyMatch(Character::isLetterOrDigit)) {
                Check.fail("no test has named '" + left.strip() + "'");
            }
            start = named.nextClearBit(end);
        }
    }
}
