import java.io.IOException;
import java.nio.file.Files;
import java.nio.file.Path;
import java.util.ArrayList;
import java.util.LinkedHashMap;
import java.util.List;
import java.util.Map;

/**
 * Which sentence of the document the answers that follow are about. In the end each quoted sentence must stand in the
 * document, and each sentence of the document must have been quoted by a test.
 */
final class Sentences {
    private static final Path DOCUMENT = Path.of("../shared/DOC.md");
    private static final List<String> PARTS = List.of("TEXT", "MACHINES", "A ROUND", "WORDS", "LOG", "CHANGES", "The constants");
    // Headings, and the sentence that tells how the document is ordered.
    private static final List<String> NOTHING_ASKED = List.of("Parse errors have these codes.", "A ROUND goes like this:",
        "The constants:", "The constructor and the methods follow, a promise each: the signature, then what it does.",
        "text", "machines", "words", "log and accounts", "changes", "undo and snapshots", "the next round;",
        "An object is used for at most 512 calls after it has been made;", "what later calls answer is free.");

    // The sentence with which the document begins tells what the others are about.
    private static final String SUMMARY = "^Letters for which machines bid: [^.]*\\. ";

    private static final Map<String, List<String>> QUOTED = new LinkedHashMap<>();
    private static String current = "";
    private static int madeBefore = 0;

    private Sentences() {
    }

    static void about(int promise, String sentence) {
        note("Promise " + promise, "promise " + promise, sentence);
    }

    /** A sentence of the Description, with the promise through which it is looked at; 0 if it is none alone. */
    static void about(int promise, String part, String sentence) {
        note(part, (promise == 0 ? "" : "promise " + promise + ", ") + part, sentence);
    }

    static void aboutNone() {
        end();
        current = "";
    }

    /** A sentence that is quoted must be followed by an answer. */
    private static void end() {
        if (!current.isEmpty() && Check.made == madeBefore) {
            Check.same("answers about it", "some", "none");
        }
        madeBefore = Check.made;
    }

    /** What stands before a wrong answer. */
    static String heading() {
        return current;
    }

    private static void note(String place, String name, String sentence) {
        end();
        QUOTED.computeIfAbsent(place, each -> new ArrayList<>()).add(folded(sentence));
        current = "[" + name + ": \"" + sentence + "\"] ";
    }

    /** Compares what was quoted with the document itself. */
    static void compare() {
        aboutNone();
        Map<String, List<String>> places = places();
        for (Map.Entry<String, List<String>> quoted : QUOTED.entrySet()) {
            String whole = String.join(" ", places.getOrDefault(quoted.getKey(), List.of()));
            for (String sentence : quoted.getValue()) {
                Check.yes("the document says in " + quoted.getKey() + ": " + sentence, whole.contains(sentence));
            }
        }
        for (Map.Entry<String, List<String>> place : places.entrySet()) {
            for (String line : place.getValue()) {
                for (String clause : line.split("(?<=[.;]|\\.\\)) ")) {
                    Check.yes("a test quotes of " + place.getKey() + ": " + clause, isQuoted(place.getKey(), clause));
                }
            }
        }
    }

    private static boolean isQuoted(String place, String clause) {
        if (NOTHING_ASKED.contains(clause)) {
            return true;
        }
        String bare = clause.replaceAll("[.;]$", "");
        for (String quoted : QUOTED.getOrDefault(place, List.of())) {
            if (quoted.contains(bare) || clause.contains(quoted)) {
                return true;
            }
        }
        return false;
    }

    /** The lines of the document that ask something of the program, by the place where they stand. */
    private static Map<String, List<String>> places() {
        Map<String, List<String>> places = new LinkedHashMap<>();
        String place = "";
        for (String line : lines()) {
            if (line.startsWith("## ")) {
                boolean asks = line.startsWith("## Promise ") || line.equals("## What it is");
                place = asks ? line.substring(3).replaceAll(":.*", "") : "";
                continue;
            }
            for (String part : PARTS) {
                if (line.startsWith(part)) {
                    place = part;
                }
            }
            String bare = folded(line).replaceAll(SUMMARY, "").replaceAll("^[A-Z]{3,}\\. |^[1-4]\\. |^- |^---- ", "");
            boolean isSignature = bare.matches("`[^`]*\\(.*`");
            if (!place.isEmpty() && !bare.isEmpty() && !isSignature) {
                places.computeIfAbsent(place, each -> new ArrayList<>()).add(bare);
            }
        }
        return places;
    }

    private static List<String> lines() {
        try {
            return Files.readAllLines(DOCUMENT);
        } catch (IOException e) {
            Check.same("the document is found", "", e.toString());
            return List.of();
        }
    }

    private static String folded(String text) {
        return text.trim().replaceAll(" +", " ");
    }
}
