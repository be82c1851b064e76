import java.io.IOException;
import java.nio.file.Files;
import java.nio.file.Path;
import java.util.HashMap;
import java.util.HashSet;
import java.util.Map;
import java.util.Set;
import java.util.regex.Pattern;

/** Runs the test of one sentence of the document, whose words must stand where they are said to stand. */
final class Sentence {
    private static final Map<String, String> PARTS = parts();
    private static final Map<String, String> UNHEARD = new HashMap<>(PARTS);
    private static final Set<String> HEARD = new HashSet<>();

    private Sentence() {
    }

    /** The document by its parts: "Terms 0" (ahead of the first) to "Terms 4", "Promise 1" to "Promise 42", and by headings. */
    private static Map<String, String> parts() {
        Map<String, String> parts = new HashMap<>();
        String part = "";
        for (String line : lines()) {
            if (line.startsWith("## ")) {
                String heading = line.substring(3);
                int colon = heading.indexOf(':');
                part = heading.equals("Terms") ? "Terms 0" : colon < 0 ? heading : heading.substring(0, colon);
            } else if (line.startsWith("==== ")) {
                part = "Terms " + line.charAt(5);
            }
            if (!line.startsWith("```")) {
                parts.merge(part, line, (a, b) -> (a + " " + b).replaceAll("\\s+", " "));
            }
        }
        return parts;
    }

    private static Iterable<String> lines() {
        try {
            return Files.readAllLines(Path.of("../shared/DOC.md"));
        } catch (IOException e) {
            throw new IllegalStateException(e);
        }
    }

    static void holds(String part, String words, Runnable test) {
        Check.about(part + ": " + words);
        Check.due("the words stand there", PARTS.getOrDefault(part, "").contains(words), true);
        int asked = Check.asked();
        test.run();
        Check.due("something was asked", Check.asked() > asked, true);
        Check.about("");
        HEARD.add(part);
        UNHEARD.computeIfPresent(part, (p, rest) -> rest.replace(words, " ___ "));
    }

    static void dueAllPromises() {
        for (int p = 1; p <= 42; p++) {
            Check.due("promise " + p + " has a test", HEARD.contains("Promise " + p), true);
        }
        for (int t = 0; t <= 4; t++) {
            Check.due("term " + t + " has a test", HEARD.contains("Terms " + t), true);
        }
    }

    /** Where the document names a bound or a refusal, a test has heard it. */
    static void dueNoBoundUnheard() {
        Pattern bound = Pattern.compile("\\bNONE\\b|\\bnone\\b|\\bempty\\b|\\bcan't\\b|at most|at least|only if|\\.\\.|\\bwrap\\b");
        for (String part : UNHEARD.keySet()) {
            if (part.startsWith("Terms") || part.startsWith("Promise")) {
                Check.due("a bound that no test hears in " + part + ": " + UNHEARD.get(part),
                        bound.matcher(UNHEARD.get(part)).find(), false);
            }
        }
    }

    /** What no test has heard: for a reader who looks for a sentence without one. */
    static void printUnheard() {
        UNHEARD.keySet().stream().sorted().forEach(p -> System.out.println(p + " | " + UNHEARD.get(p)));
    }
}
