import java.io.IOException;
import java.lang.reflect.Field;
import java.lang.reflect.Method;
import java.lang.reflect.Modifier;
import java.nio.charset.StandardCharsets;
import java.nio.file.Files;
import java.nio.file.Path;
import java.util.Arrays;
import java.util.Set;
import java.util.TreeSet;
import java.util.regex.Matcher;
import java.util.regex.Pattern;

/** The public face of the document, and the rules of LANGUAGE.md that can be seen in the class or in its text. */
public final class FaceTest {
    private static final String[] FACE = {"append(int)", "clearText()", "load()", "rewind()", "feed(int)",
        "poke(int,int,int)", "tick(int)", "run(int)", "setBreakpoint(int,int,int)", "undo()", "ticksToHalt(int)",
        "cycleStart(int)", "cycleLength(int)", "cellAt(int,int)", "changedCells()", "pointerCount()", "pointerAt(int)",
        "position(int)", "direction(int)", "status(int)", "sleep(int)", "stackCount(int)", "stackSize(int,int)",
        "valueAt(int,int,int)", "inputSize()", "outputSize()", "outputAt(int)", "outputTotal()", "tickCount()",
        "save(int)", "restore(int)", "undoDepth()"};
    private static final String[] CONSTANTS = {"INVALID_ARGUMENT", "ILLEGAL_STATE", "CAPACITY_EXCEEDED", "NONE"};
    private static final String[] FORBIDDEN = {"throw", "try", "catch", "synchronized", "assert", "import", "package",
        "protected", "throws", "finally", "native", "transient", "volatile"};
    private static final Set<String> LIBRARY = Set.of("System.arraycopy", "Math.floorMod", "Math.max", "Math.min");
    private static final int LONGEST_METHOD = 60;

    private FaceTest() {
    }

    public static void main(String[] args) throws IOException {
        theClass();
        theMethods();
        theFields();
        theClassesInside();
        Path file = Path.of(System.getProperty("project.root", "."), "src/main/java/GridMachine.java");
        String source = Files.readString(file, StandardCharsets.US_ASCII);
        theWords(source);
        theLibrary(source);
        theLengthOfMethods(source);
        Due.end();
    }

    private static void theClass() {
        int modifiers = GridMachine.class.getModifiers();
        Due.isTrue("the class is public and final", Modifier.isPublic(modifiers) && Modifier.isFinal(modifiers));
        Due.is("constructors", GridMachine.class.getDeclaredConstructors().length, 1);
        Due.is("public constructors", GridMachine.class.getConstructors().length, 1);
        Due.is("the constructor's parameters", GridMachine.class.getConstructors()[0].getParameterCount(), 0);
    }

    private static String signature(Method method) {
        StringBuilder text = new StringBuilder(method.getName()).append('(');
        for (Class<?> type : method.getParameterTypes()) {
            text.append(text.charAt(text.length() - 1) == '(' ? "" : ",").append(type.getName());
        }
        return text.append(')').toString();
    }

    private static void theMethods() {
        Set<String> due = new TreeSet<>(Arrays.asList(FACE));
        Set<String> names = new TreeSet<>();
        Set<String> seen = new TreeSet<>();
        for (Method method : GridMachine.class.getDeclaredMethods()) {
            if (Modifier.isPublic(method.getModifiers())) {
                seen.add(signature(method));
                names.add(method.getName());
                Due.isTrue(method + " answers an int", method.getReturnType() == int.class);
                Due.isTrue(method + " is not static", !Modifier.isStatic(method.getModifiers()));
            } else {
                Due.isTrue(method + " is private", Modifier.isPrivate(method.getModifiers()));
            }
        }
        Due.same("the public methods", seen.toString(), due.toString());
        for (Class<?> type : allClasses()) {
            for (Method method : type.getDeclaredMethods()) {
                boolean open = type == GridMachine.class && Modifier.isPublic(method.getModifiers());
                Due.isTrue(method + " has a name of its own", open || !names.contains(method.getName()));
                Due.isTrue(method + " has at most seven parameters", method.getParameterCount() <= 7);
            }
        }
    }

    private static void theFields() {
        Set<String> seen = new TreeSet<>();
        for (Field field : GridMachine.class.getDeclaredFields()) {
            if (Modifier.isPublic(field.getModifiers())) {
                seen.add(field.getName());
                Due.isTrue(field + " is an int", field.getType() == int.class);
                Due.isTrue(field + " is static", Modifier.isStatic(field.getModifiers()));
            } else {
                Due.isTrue(field + " is private", Modifier.isPrivate(field.getModifiers()));
            }
        }
        Due.same("the constants", seen.toString(), new TreeSet<>(Arrays.asList(CONSTANTS)).toString());
        for (Class<?> type : allClasses()) {
            int own = 0;
            for (Field field : type.getDeclaredFields()) {
                boolean fixed = Modifier.isStatic(field.getModifiers());
                own += fixed ? 0 : 1;
                Due.isTrue(field + " is final", !fixed || Modifier.isFinal(field.getModifiers()));
            }
            Due.isTrue(type + " has at most twenty fields", own <= 20);
        }
    }

    private static Class<?>[] allClasses() {
        Class<?>[] inside = GridMachine.class.getDeclaredClasses();
        Class<?>[] all = Arrays.copyOf(inside, inside.length + 1);
        all[inside.length] = GridMachine.class;
        return all;
    }

    private static void theClassesInside() {
        Class<?>[] inside = GridMachine.class.getDeclaredClasses();
        Due.isTrue("at most twelve classes", inside.length < 12);
        for (Class<?> type : inside) {
            int modifiers = type.getModifiers();
            Due.isTrue(type + " is static", Modifier.isStatic(modifiers));
            Due.isTrue(type + " is not open", !Modifier.isPublic(modifiers) && !Modifier.isProtected(modifiers));
        }
    }

    private static String withoutComments(String source) {
        return source.replaceAll("(?s)/\\*.*?\\*/", "").replaceAll("//[^\\n]*", "");
    }

    private static void theWords(String source) {
        String code = withoutComments(source);
        for (String word : FORBIDDEN) {
            Due.isTrue("no " + word, !code.matches("(?s).*\\b" + word + "\\b.*"));
        }
        Due.isTrue("no lambda and no method reference", !code.contains("->") && !code.contains("::"));
        for (int i = 0; i < source.length(); i++) {
            char sign = source.charAt(i);
            Due.isTrue("plain signs", sign == '\n' || sign >= 32 && sign <= 126);
        }
    }

    /** What the class uses of the library stands in rule 4 and throws for no argument that it is given. */
    private static void theLibrary(String source) {
        Matcher use = Pattern.compile("\\b[A-Z]\\w*[a-z]\\w*\\.\\w+").matcher(withoutComments(source));
        int uses = 0;
        while (use.find()) {
            uses++;
            Due.isTrue(use.group() + " is a use of the library that was looked at", LIBRARY.contains(use.group()));
        }
        Due.isTrue("the uses of the library were found", uses > LIBRARY.size());
    }

    /** Methods of the class stand four signs in, those of the classes inside it eight. */
    private static void theLengthOfMethods(String source) {
        String[] lines = source.split("\n");
        int methods = 0;
        for (int begin = 0; begin < lines.length; begin++) {
            if (!lines[begin].matches(" {4}( {4})?\\w.*\\) \\{") || lines[begin].matches(" *(if|for|while|switch) .*")) {
                continue;
            }
            methods++;
            String end = lines[begin].replaceAll("\\S.*", "}");
            int length = 1;
            while (!lines[begin + length].equals(end)) {
                length++;
            }
            Due.isTrue(lines[begin].trim() + " is short", length < LONGEST_METHOD);
        }
        Due.isTrue("the methods were found", methods > FACE.length);
    }
}
