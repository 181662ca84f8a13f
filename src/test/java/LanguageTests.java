import java.lang.reflect.Field;
import java.lang.reflect.Method;
import java.lang.reflect.Modifier;
import java.nio.file.Files;
import java.nio.file.Path;
import java.util.ArrayList;
import java.util.List;
import java.util.Set;
import java.util.TreeSet;
import java.util.regex.Matcher;
import java.util.regex.Pattern;

/** The program keeps to those rules of ../shared/LANGUAGE.md that can be read off its text and its classes. */
final class LanguageTests {
    private static final Path PROGRAM = Path.of("src/main/java/BeachedShip.java");
    private static final Set<String> LIBRARY = Set.of("Math.max", "Math.min", "Math.abs", "Integer.bitCount",
        "System.arraycopy");
    private static final String[] FORBIDDEN = {"\\b(import|package|throws?|try|catch|finally|synchronized|assert)\\b",
        "->", "::", "\\b(equals|hashCode|toString|getClass)\\b", "\\bObject\\b", "@"};
    private static final Set<String> CONSTANTS = Set.of("int", "long", "boolean", "char", "String", "int[]", "long[]",
        "char[]", "byte[]");
    private static final int MOST_CLASSES = 12, MOST_FIELDS = 20, MOST_PARAMETERS = 7, MOST_LINES = 60;

    private LanguageTests() {
    }

    static void all() throws Exception {
        String told = Files.readString(PROGRAM);
        String code = told.replaceAll("(?s)/\\*.*?\\*/", "").replaceAll("//[^\n]*", "");
        Due.holds(told.matches("[\\x01-\\x7F]*+"), "signs 1 to 127 alone");
        for (String f : FORBIDDEN) {
            Matcher m = Pattern.compile(f).matcher(code);
            Due.holds(!m.find(), "the program has " + f);
        }
        Matcher calls = Pattern.compile("\\b([A-Z][a-z]\\w*\\.\\w+)\\(").matcher(code);
        while (calls.find()) {
            Due.holds(LIBRARY.contains(calls.group(1)), "a call into the library: " + calls.group(1));
        }
        methodsAreShort(code);
        List<Class<?>> classes = new ArrayList<>(List.of(BeachedShip.class.getDeclaredClasses()));
        classes.add(BeachedShip.class);
        Due.holds(classes.size() <= MOST_CLASSES, "classes: " + classes.size());
        for (Class<?> c : classes) {
            membersOf(c);
        }
    }

    /** Methods stand at 4 or 8 blanks, and end in the first line with so many and a brace. */
    private static void methodsAreShort(String code) {
        Pattern head = Pattern.compile("( {4}| {8})((?:\\w+(?:\\[\\])* )*)([\\w]+)\\(.*\\) \\{");
        String[] lines = code.split("\n");
        int methods = 0;
        for (int i = 0; i < lines.length; i++) {
            Matcher m = head.matcher(lines[i]);
            if (!m.matches() || Set.of("if", "for", "while", "switch").contains(m.group(3))) {
                continue;
            }
            methods++;
            int end = i;
            boolean makes = false;
            while (end < lines.length && !lines[end].equals(m.group(1) + "}")) {
                makes |= lines[end].matches(".*\\bnew\\b.*");
                end++;
            }
            Due.holds(end - i < MOST_LINES, m.group(3) + " has " + (end - i) + " lines");
            Due.holds(!makes || Character.isUpperCase(m.group(3).charAt(0)), m.group(3) + " makes an object");
        }
        Due.holds(methods > 80, "methods that were found: " + methods);
    }

    private static void membersOf(Class<?> c) {
        int fields = 0;
        for (Field f : c.getDeclaredFields()) {
            boolean fixed = Modifier.isStatic(f.getModifiers());
            fields += fixed ? 0 : 1;
            Due.holds(!fixed || CONSTANTS.contains(f.getType().getSimpleName()), "what a constant is: " + f);
            Due.holds(!fixed || Modifier.isFinal(f.getModifiers()), "static fields are final: " + f);
        }
        Due.holds(fields <= MOST_FIELDS, "fields of " + c + ": " + fields);
        Set<String> face = new TreeSet<>();
        for (Method m : BeachedShip.class.getMethods()) {
            face.add(m.getName());
        }
        for (Method m : c.getDeclaredMethods()) {
            Due.holds(m.getParameterCount() <= MOST_PARAMETERS, "what a method takes: " + m);
            Due.holds(!Modifier.isPrivate(m.getModifiers()) || !face.contains(m.getName()), "a name of the face: " + m);
        }
    }
}
