import java.io.IOException;
import java.nio.charset.StandardCharsets;
import java.nio.file.Files;
import java.nio.file.Path;
import java.util.ArrayList;
import java.util.HashMap;
import java.util.List;
import java.util.Map;

/**
 * The sentences of the document, and those of them that a test has cited. What a test cites must stand in the
 * document, in the promise of that number or in the Description; and each piece of the document must be cited.
 */
final class Sentences {
    private static final int DESCRIPTION = 0;
    private static final int PROMISES = 33;
    private static final Map<Integer, List<String>> CITED = new HashMap<>();

    private Sentences() {
    }

    static void cite(int promise, String sentence) {
        CITED.computeIfAbsent(promise, key -> new ArrayList<>()).add(plain(sentence));
    }

    private static String plain(String text) {
        return text.replaceAll("\\s+", " ").trim();
    }

    /** Compares the citations with the document, which stands beside the project. */
    static void compare() throws IOException {
        for (int promise = 1; promise <= PROMISES; promise++) {
            Due.isTrue("promise " + promise + " has a boundary test", CITED.containsKey(promise));
        }
        Path file = Path.of(System.getProperty("project.root", "."), "..", "shared", "DOC.md");
        if (!Files.isReadable(file)) {
            System.out.println("the document is not at hand: the citations are not compared with it");
            return;
        }
        String document = Files.readString(file, StandardCharsets.UTF_8);
        String use = between(document, "cycle detection and undo.\n", "## The public face");
        String description = between(document, "## Description\n", "Examples: ");
        String constants = between(document, "The constants:\n", "The constructor and the methods follow");
        Map<Integer, String> sections = new HashMap<>();
        sections.put(DESCRIPTION, use + description + constants);
        for (int promise = 1; promise <= PROMISES; promise++) {
            String end = promise < PROMISES ? "## Promise " + (promise + 1) + ":" : "## Not promised";
            sections.put(promise, between(document, "## Promise " + promise + ":", end));
        }
        compareCitations(sections);
        comparePieces(sections);
    }

    private static String between(String document, String begin, String end) {
        int from = document.indexOf(begin);
        int to = document.indexOf(end, Math.max(0, from));
        Due.isTrue("the document has " + plain(begin) + " and " + plain(end), from >= 0 && to >= 0);
        return from >= 0 && to >= 0 ? document.substring(document.indexOf('\n', from) + 1, to) : "";
    }

    private static void compareCitations(Map<Integer, String> sections) {
        for (Map.Entry<Integer, List<String>> entry : CITED.entrySet()) {
            String section = plain(sections.get(entry.getKey()));
            for (String sentence : entry.getValue()) {
                boolean stands = section.contains(sentence) || plain(sections.get(DESCRIPTION)).contains(sentence);
                Due.isTrue("promise " + entry.getKey() + ": the document says \"" + sentence + "\"", stands);
            }
        }
    }

    private static void comparePieces(Map<Integer, String> sections) {
        for (int section = DESCRIPTION; section <= PROMISES; section++) {
            for (String piece : pieces(sections.get(section))) {
                Due.isTrue("a test cites, of section " + section + ", \"" + piece + "\"", isCited(section, piece));
            }
        }
    }

    /** Any promise may cite the Description. */
    private static boolean isCited(int section, String piece) {
        for (Map.Entry<Integer, List<String>> entry : CITED.entrySet()) {
            if (section != DESCRIPTION && section != entry.getKey()) {
                continue;
            }
            for (String sentence : entry.getValue()) {
                if (sentence.contains(piece) || piece.contains(sentence)) {
                    return true;
                }
            }
        }
        return false;
    }

    /** A piece is a sentence, a line of the table of instructions, an argument, or one answer of a "Returns" line. */
    private static List<String> pieces(String section) {
        List<String> pieces = new ArrayList<>();
        for (String line : section.split("\n")) {
            boolean whole = line.startsWith("  ") || line.startsWith("- ");
            String[] parts = whole ? new String[] {line} : line.split(line.startsWith("Returns") ? "; " : "(?<=[.]) ");
            for (String part : parts) {
                String piece = plain(part);
                if (!piece.isEmpty() && !piece.startsWith("`") && !piece.startsWith("----")) {
                    pieces.add(piece);
                }
            }
        }
        return pieces;
    }
}
