import java.io.IOException;
import java.lang.reflect.Constructor;
import java.lang.reflect.Field;
import java.lang.reflect.Method;
import java.lang.reflect.Modifier;
import java.nio.file.Files;
import java.nio.file.Path;
import java.util.Arrays;
import java.util.HashSet;
import java.util.Set;
import java.util.TreeSet;

/** The public face is the document's, and those rules of LANGUAGE.md hold that can be read off. */
public final class FaceTest {
    private static final String SOURCE = "src/main/java/AbstractValues.java";

    private static final Set<String> FACE = new TreeSet<>(Arrays.asList(
        "int BAD = -1000", "int FULL = -1001", "int INVALID = -1002", "int NONE = -1003",
        "int emit[int, int, int, int]", "boolean replace[int, int, int, int]", "int retract[]",
        "boolean valid[]", "int count[int, int]", "boolean has[int, int, int]", "int lowest[int, int, int]",
        "int highest[int, int, int]", "int most[int, int, int]", "boolean exact[int, int]",
        "int unreached[int]", "boolean level[int]"));

    private static final String[] FORBIDDEN = {
        "import", "package", "throw", "throws", "try", "catch", "synchronized", "assert", "instanceof",
        "null", "float", "double", "String", "Math", "Integer", "System", "Arrays", "Object", "->", "::",
    };

    private static void face() throws IllegalAccessException {
        Class<?> c = AbstractValues.class;
        Check.due("public and final", c.getModifiers(), Modifier.PUBLIC | Modifier.FINAL);
        Check.due("no nested class", c.getDeclaredClasses().length, 0);
        Check.due("one constructor", c.getDeclaredConstructors().length, 1);
        for (Constructor<?> made : c.getDeclaredConstructors()) {
            Check.due("the constructor is public", made.getModifiers(), Modifier.PUBLIC);
            Check.due("the constructor has no parameter", made.getParameterCount(), 0);
        }
        Set<String> found = new TreeSet<>();
        for (Field f : c.getDeclaredFields()) {
            if (!Modifier.isPrivate(f.getModifiers())) {
                int constant = Modifier.PUBLIC | Modifier.STATIC | Modifier.FINAL;
                Check.due(f + " is a public constant", f.getModifiers(), constant);
                found.add(f.getType() + " " + f.getName() + " = " + f.get(null));
            }
        }
        for (Method m : c.getDeclaredMethods()) {
            if (!Modifier.isPrivate(m.getModifiers())) {
                Check.due(m + " is public and no more", m.getModifiers(), Modifier.PUBLIC);
                found.add(m.getReturnType() + " " + m.getName() + Arrays.toString(m.getParameterTypes()));
            }
        }
        Check.due("the face: " + found, found.equals(FACE), true);
    }

    private static boolean isAllowed(Class<?> type) {
        Class<?> element = type.isArray() ? type.getComponentType() : type;
        return element.isPrimitive() && element != float.class && element != double.class;
    }

    private static void members() {
        Class<?> c = AbstractValues.class;
        int fields = 0;
        for (Field f : c.getDeclaredFields()) {
            boolean isStatic = Modifier.isStatic(f.getModifiers());
            fields += isStatic ? 0 : 1;
            Check.due("type of " + f, isAllowed(f.getType()), true);
            boolean isConstant = Modifier.isFinal(f.getModifiers())
                && (f.getType() == int.class || f.getType() == long.class);
            Check.due("static and no constant: " + f, isStatic && !isConstant, false);
        }
        Check.due("at most forty fields", fields <= 40, true);
        Set<String> names = new HashSet<>();
        for (Method m : c.getDeclaredMethods()) {
            Check.due("the only one of its name: " + m, names.add(m.getName()), true);
            Check.due("at most seven parameters: " + m, m.getParameterCount() <= 7, true);
            Check.due("answers no array: " + m, m.getReturnType().isArray(), false);
            for (Class<?> type : m.getParameterTypes()) {
                Check.due("parameter types of " + m, isAllowed(type), true);
            }
        }
    }

    private static void source() throws IOException {
        String text = Files.readString(Path.of(SOURCE))
            .replaceAll("(?s)/\\*.*?\\*/", " ").replaceAll("//[^\n]*", " ");
        for (String word : FORBIDDEN) {
            String pattern = Character.isLetter(word.charAt(0)) ? "\\b" + word + "\\b" : word;
            Check.due("uses of " + word, text.split(pattern, -1).length - 1, 0);
        }
        String field = "private final (int|boolean)\\[\\] \\w+ = new (int|boolean)\\[[A-Z_]+\\];";
        int made = text.split("\\bnew\\b", -1).length;
        Check.due("arrays made in fields alone", text.split(field, -1).length, made);
    }

    public static void main(String[] args) throws IllegalAccessException, IOException {
        face();
        members();
        source();
        Check.finish();
    }
}
