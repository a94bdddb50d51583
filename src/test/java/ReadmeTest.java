import java.io.IOException;
import java.lang.reflect.Method;
import java.lang.reflect.Modifier;
import java.nio.charset.StandardCharsets;
import java.nio.file.DirectoryStream;
import java.nio.file.Files;
import java.nio.file.Path;
import java.util.Set;
import java.util.TreeSet;
import java.util.regex.Matcher;
import java.util.regex.Pattern;

/** README.md tells how to use the class: its examples answer as they say, and no call, code or test is missing. */
public final class ReadmeTest {
    private static final Path ROOT = Path.of(System.getProperty("project.root", "."));
    private static final Pattern EXAMPLE = Pattern.compile("(?s)```java\n(.*?)```");
    private static final String NEW_OBJECT = "GridMachine machine = new GridMachine();";
    private static final Pattern TYPING = Pattern.compile("for \\(char character : \"(.*)\"\\.toCharArray\\(\\)\\) \\{");
    private static final Set<String> TYPING_ENDS = Set.of("machine.append(character);", "}");
    private static final Pattern CALL = Pattern.compile("machine\\.(\\w+)\\(([-\\d, ]*)\\); +// (-?\\d+)(,.*)?");
    private static final Pattern ROW = Pattern.compile("(?m)^\\| `(\\w+)\\(([\\w, ]*)\\)` \\|.*\\|.*\\|(.*)\\|$");
    private static final Pattern CONSTANT_ROW = Pattern.compile("(?m)^\\| `([A-Z_]+)` \\| (-\\d+) \\|");
    private static final Pattern CONSTANT = Pattern.compile("\\b(INVALID_ARGUMENT|ILLEGAL_STATE|CAPACITY_EXCEEDED|NONE)\\b");

    private ReadmeTest() {
    }

    public static void main(String[] args) throws IOException, ReflectiveOperationException {
        String page = Files.readString(ROOT.resolve("README.md"), StandardCharsets.UTF_8);
        theExamples(page);
        theConstants(page);
        theCalls(page);
        theErrorCodes(page);
        theTests(page);
        Due.end();
    }

    private static void theExamples(String page) throws ReflectiveOperationException {
        Matcher example = EXAMPLE.matcher(page);
        int examples = 0;
        while (example.find()) {
            examples++;
            perform("example " + examples, example.group(1).split("\n"));
        }
        Due.is("the examples of README.md", examples, 3);
    }

    private static void perform(String what, String[] lines) throws ReflectiveOperationException {
        GridMachine machine = new GridMachine();
        Due.same(what + " begins", lines[0], NEW_OBJECT);
        for (int i = 1; i < lines.length; i++) {
            String line = lines[i].trim();
            Matcher typing = TYPING.matcher(line);
            Matcher call = CALL.matcher(line);
            if (typing.matches()) {
                Due.type(machine, typing.group(1).replace("\\n", "\n"));
            } else if (call.matches()) {
                int got = answer(machine, call.group(1), call.group(2));
                Due.is(what + ": " + line, got, Integer.parseInt(call.group(3)));
            } else {
                Due.isTrue(what + ": " + line + " is understood", TYPING_ENDS.contains(line));
            }
        }
    }

    private static int answer(GridMachine machine, String name, String list) throws ReflectiveOperationException {
        String[] texts = list.isEmpty() ? new String[0] : list.split(", ");
        Class<?>[] types = new Class<?>[texts.length];
        Object[] values = new Object[texts.length];
        for (int i = 0; i < texts.length; i++) {
            types[i] = int.class;
            values[i] = Integer.valueOf(texts[i]);
        }
        return (Integer) GridMachine.class.getMethod(name, types).invoke(machine, values);
    }

    private static void theConstants(String page) throws ReflectiveOperationException {
        Matcher row = CONSTANT_ROW.matcher(page);
        int rows = 0;
        while (row.find()) {
            rows++;
            int value = GridMachine.class.getField(row.group(1)).getInt(null);
            Due.is("README.md: " + row.group(1), Integer.parseInt(row.group(2)), value);
        }
        Due.is("README.md: the constants", rows, GridMachine.class.getFields().length);
    }

    private static void theCalls(String page) {
        Set<String> told = new TreeSet<>();
        Matcher row = ROW.matcher(page);
        while (row.find()) {
            int parameters = row.group(2).isEmpty() ? 0 : row.group(2).split(", ").length;
            Due.isTrue("README.md: " + row.group(1) + " has one row", told.add(row.group(1) + " with " + parameters));
        }
        Set<String> due = new TreeSet<>();
        for (Method method : GridMachine.class.getDeclaredMethods()) {
            if (Modifier.isPublic(method.getModifiers())) {
                due.add(method.getName() + " with " + method.getParameterCount());
            }
        }
        Due.same("README.md: the calls", told.toString(), due.toString());
    }

    /** A row names the codes that the promise of that call names, in the same order. */
    private static void theErrorCodes(String page) throws IOException {
        Path file = ROOT.resolve("../shared/DOC.md");
        if (!Files.isReadable(file)) {
            System.out.println("the document is not at hand: the error codes are not compared with it");
            return;
        }
        String document = Files.readString(file, StandardCharsets.UTF_8);
        Matcher row = ROW.matcher(page);
        while (row.find()) {
            Matcher promise = Pattern.compile("(?s)## Promise \\d+: " + row.group(1) + "\n(.*?)\n## ").matcher(document);
            Due.isTrue("the document promises " + row.group(1), promise.find());
            String due = codesOf(promise.group(1));
            Due.same("README.md: the codes of " + row.group(1), codesOf(row.group(3)), due);
        }
    }

    private static String codesOf(String text) {
        StringBuilder codes = new StringBuilder();
        Matcher code = CONSTANT.matcher(text);
        while (code.find()) {
            codes.append(' ').append(code.group(1));
        }
        return codes.toString();
    }

    private static void theTests(String page) throws IOException {
        try (DirectoryStream<Path> files = Files.newDirectoryStream(ROOT.resolve("src/test/java"), "*Test.java")) {
            for (Path file : files) {
                String name = file.getFileName().toString().replace(".java", "");
                Due.isTrue("README.md names " + name, page.contains("| `" + name + "` |"));
            }
        }
        Due.isTrue("README.md tells how to run the tests", page.contains("\n.ci/run\n"));
    }
}
