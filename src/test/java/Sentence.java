import java.io.IOException;
import java.io.UncheckedIOException;
import java.nio.file.Files;
import java.nio.file.Path;
import java.util.HashSet;
import java.util.LinkedHashMap;
import java.util.Map;
import java.util.Set;

/**
 * Ties checks to the sentences of the document: what a test quotes must stand in the section that it names, must be
 * followed by a check of its own, and every promise must be quoted.
 */
final class Sentence {
    private static final Map<String, String> SECTIONS = sections();
    private static final Set<String> QUOTED = new HashSet<>();
    private static String latest = "";
    private static int checksBefore;

    private Sentence() {
    }

    static void of(String section, String words) {
        close();
        latest = section + ": " + words;
        checksBefore = Check.count();
        Check.heading = "[" + latest + "] ";
        QUOTED.add(section);
        if (!SECTIONS.getOrDefault(section, "").contains(words)) {
            Check.same("these words do not stand there", false, true);
            checksBefore = Check.count();
        }
    }

    static void promise(int number, String words) {
        of("Promise " + number, words);
    }

    static void end() {
        close();
        Check.heading = "";
        for (String section : SECTIONS.keySet()) {
            boolean tellsAnswers = section.startsWith("Promise") || section.equals("Terms");
            Check.same("a sentence of " + section + " is tested", !tellsAnswers || QUOTED.contains(section), true);
        }
        Check.same("sections of promises", SECTIONS.keySet().stream().filter(s -> s.startsWith("Promise")).count(), 64);
    }

    private static void close() {
        if (!latest.isEmpty() && Check.count() == checksBefore) {
            Check.same("it has no check", false, true);
        }
    }

    /** The texts of the document by heading, in one line each; a promise is named by its number alone. */
    private static Map<String, String> sections() {
        Map<String, String> sections = new LinkedHashMap<>();
        String name = "";
        for (String line : lines()) {
            if (line.startsWith("#")) {
                name = line.replaceFirst("^#+ ", "").replaceFirst("^(Promise \\d+):.*", "$1");
            } else {
                sections.merge(name, line.trim(), (before, after) -> (before + " " + after).replaceAll(" +", " "));
            }
        }
        return sections;
    }

    private static Iterable<String> lines() {
        try {
            return Files.readAllLines(Path.of("../shared/DOC.md"));
        } catch (IOException e) {
            throw new UncheckedIOException(e);
        }
    }
}
