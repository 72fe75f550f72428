import java.io.IOException;
import java.nio.file.Files;
import java.nio.file.Path;
import java.util.ArrayList;
import java.util.LinkedHashMap;
import java.util.LinkedHashSet;
import java.util.List;
import java.util.Map;
import java.util.Set;

/**
 * The sentences of the document, by the sections in which they stand, and which of them a test has
 * named. A test that names words which the document does not have is wrong.
 */
final class Sentences {
    private static final Path DOCUMENT = Path.of("../shared/DOC.md");
    /** Two sections of the document have headings without a mark. */
    private static final Set<String> BARE_HEADINGS = Set.of("Plays, shots", "Undo, the snapshot");

    final Check check = new Check();
    private final Map<String, List<String>> sections = new LinkedHashMap<>();
    private final Set<String> open = new LinkedHashSet<>();
    private int tests = 0;

    Sentences() throws IOException {
        String section = "";
        boolean code = false;
        for (String line : Files.readAllLines(DOCUMENT)) {
            code ^= line.startsWith("```");
            if (line.startsWith("#") || BARE_HEADINGS.contains(line)) {
                section = line.replaceFirst("^#+ ", "").replaceFirst("^(Promise [0-9]+):.*", "$1");
                sections.put(section, new ArrayList<>());
            } else if (!code && !line.isBlank() && !line.startsWith("```")) {
                addAll(section, line);
            }
        }
    }

    private void addAll(String section, String line) {
        for (String sentence : line.split("(?<=[.]) ")) {
            sections.get(section).add(sentence);
            open.add(section + ": " + sentence);
        }
    }

    /** Runs the test of a sentence, or of some words of it. */
    void says(String section, String words, Runnable test) {
        String name = section + ": " + words;
        int found = 0;
        for (String sentence : sections.getOrDefault(section, List.of())) {
            if (sentence.contains(words)) {
                found++;
                open.remove(section + ": " + sentence);
            }
        }
        check.is("sentences of the document with the words \"" + name + "\"", found, 1);
        int wrong = check.wrong();
        int all = check.answers();
        test.run();
        tests++;
        check.is("a test without a call: " + name, check.answers() == all, false);
        if (check.wrong() > wrong) {
            System.out.println("  these are wrong for the sentence \"" + name + "\"");
        }
    }

    /** For a sentence that names no case to go to. */
    void namesNoCase(String section, String beginning) {
        boolean found = open.removeIf(one -> one.startsWith(section + ": " + beginning));
        check.is("a sentence that begins with \"" + beginning + "\"", found, true);
    }

    /** Each sentence must have been named by now. */
    void end(String test) {
        for (String sentence : open) {
            check.is("no test names the sentence \"" + sentence + "\"", false, true);
        }
        System.out.println(test + ": " + tests + " sentences or parts of them have a test each");
        check.end(test);
    }
}
