import java.io.IOException;
import java.nio.charset.StandardCharsets;
import java.nio.file.Files;
import java.nio.file.Path;
import java.util.HashMap;
import java.util.HashSet;
import java.util.Map;
import java.util.Set;
import java.util.regex.Matcher;
import java.util.regex.Pattern;

/**
 * Rule 9 of LANGUAGE.md in the text of the class: each loop counts against a bound, and neither its body nor a method
 * of the same class that the body leads to moves that bound.
 */
public final class LoopsTest {
    private static final Pattern CLASS = Pattern.compile("^ *(?:public |private static )final class (\\w+) \\{$");
    private static final Pattern METHOD = Pattern.compile("^(?: {4}| {8})(?:\\w+ )*(\\w+)\\([^()]*\\) \\{$");
    private static final Pattern FOR = Pattern.compile("^ *for \\(int (\\w+) = [^;]+; (.+); \\1(\\+\\+|--)\\) \\{$");
    private static final Pattern WHILE = Pattern.compile("^ *while \\(((\\w+) < \\w+)( && .+)?\\) \\{$");
    private static final Pattern CALL = Pattern.compile("(?<![.\\w])([a-z]\\w*)\\(");
    private static final Set<String> WORDS = Set.of("if", "for", "while", "switch");

    /** The bodies of methods, by the class and the name. */
    private static final Map<String, String> BODIES = new HashMap<>();
    private static int loops = 0;

    private LoopsTest() {
    }

    public static void main(String[] args) throws IOException {
        theTestSeesAMovingBound();
        Path file = Path.of(System.getProperty("project.root", "."), "src/main/java/GridMachine.java");
        String[] lines = Files.readString(file, StandardCharsets.US_ASCII).replaceAll("//[^\\n]*", "").split("\n");
        readMethods(lines);
        readLoops(lines);
        Due.isTrue("the methods were found", BODIES.size() > 60);
        Due.isTrue("the loops were found", loops > 20);
        Due.end();
    }

    /** A loop whose body makes its own bound grow by way of another method is not taken for one that ends. */
    private static void theTestSeesAMovingBound() {
        BODIES.put("Sample.turn", "grow();");
        BODIES.put("Sample.grow", "used++;");
        Due.isTrue("a bound that moves", moves("Sample", "used", "turn();", new HashSet<>()));
        Due.isTrue("a bound that stays", !moves("Sample", "limit", "turn();", new HashSet<>()));
        BODIES.clear();
    }

    private static String classAt(String line, String before) {
        Matcher found = CLASS.matcher(line);
        return found.matches() ? found.group(1) : before;
    }

    /** What stands between a line that opens a block and the line that closes it at the same depth. */
    private static String block(String[] lines, int begin) {
        String end = lines[begin].replaceAll("\\S.*", "}");
        StringBuilder body = new StringBuilder();
        for (int i = begin + 1; i < lines.length && !lines[i].startsWith(end); i++) {
            body.append(lines[i]).append('\n');
        }
        return body.toString();
    }

    private static void readMethods(String[] lines) {
        String owner = "";
        for (int i = 0; i < lines.length; i++) {
            owner = classAt(lines[i], owner);
            Matcher found = METHOD.matcher(lines[i]);
            if (found.matches() && !WORDS.contains(found.group(1))) {
                BODIES.merge(owner + "." + found.group(1), block(lines, i), String::concat);
            }
        }
    }

    private static void readLoops(String[] lines) {
        String owner = "";
        for (int i = 0; i < lines.length; i++) {
            owner = classAt(lines[i], owner);
            if (!lines[i].matches(".*\\b(for|while|do)\\b.*") || lines[i].matches(" */?\\*.*")) {
                continue;
            }
            loops++;
            String what = "line " + (i + 1) + ": " + lines[i].trim();
            String body = block(lines, i);
            Matcher counted = FOR.matcher(lines[i]);
            Matcher guarded = WHILE.matcher(lines[i]);
            if (counted.matches()) {
                holds(what, owner, counted.group(1), counted.group(2), body);
                Due.isTrue(what + " leaves its counter alone", !changes(counted.group(1), body));
            } else if (guarded.matches()) {
                holds(what, owner, guarded.group(2), guarded.group(1), body);
                Due.isTrue(what + " counts", body.contains(guarded.group(2) + "++;"));
            } else {
                Due.isTrue(what + " counts against a bound", false);
            }
        }
    }

    /** All names of the condition but the counter are bounds. */
    private static void holds(String what, String owner, String counter, String condition, String body) {
        Due.isTrue(what + " compares its counter", condition.matches("\\b" + counter + "\\b.* (<|<=|>) .*"));
        for (String bound : condition.split("[^\\w.]+")) {
            String name = bound.substring(bound.lastIndexOf('.') + 1);
            if (name.matches("[a-z]\\w*") && !name.equals(counter)) {
                Due.isTrue(what + " leaves " + name + " alone", !moves(owner, name, body, new HashSet<>()));
            }
        }
    }

    private static boolean changes(String name, String body) {
        return body.matches("(?s).*\\b" + name + "\\b( [-+*/]?= |\\+\\+|--).*");
    }

    private static boolean moves(String owner, String name, String body, Set<String> seen) {
        if (changes(name, body)) {
            return true;
        }
        Matcher call = CALL.matcher(body);
        while (call.find()) {
            String method = owner + "." + call.group(1);
            String next = BODIES.get(method);
            if (next != null && seen.add(method) && moves(owner, name, next, seen)) {
                return true;
            }
        }
        return false;
    }
}
