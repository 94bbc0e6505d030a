import java.io.IOException;
import java.lang.reflect.Constructor;
import java.lang.reflect.Field;
import java.lang.reflect.Method;
import java.lang.reflect.Modifier;
import java.nio.file.Files;
import java.nio.file.Path;
import java.util.Arrays;
import java.util.List;
import java.util.Set;
import java.util.TreeSet;

/** The public face is the document's, and those rules of LANGUAGE.md hold that can be read off. */
public final class FaceTest {
    private static final String SOURCE = "src/main/java/AbstractValues.java";

    private static final Set<String> FACE = new TreeSet<>(Arrays.asList(
        "int BAD = -1000", "int FULL = -1001", "int INVALID = -1002", "int NONE = -1003",
        "int emit[int, int, int, int]", "boolean replace[int, int, int, int]", "int retract[]",
        "boolean valid[]", "int count[int, int]", "boolean has[int, int, int]", "int lowest[int, int, int]",
        "int highest[int, int, int]", "int most[int, int, int]", "boolean exact[int, int]",
        "int unreached[int]", "boolean level[int]"));

    private static final List<String> PUBLIC_NAMES = Arrays.asList("emit", "replace", "retract", "valid", "count",
        "has", "lowest", "highest", "most", "exact", "unreached", "level");

    private static final String[] FORBIDDEN = {
        "import", "package", "throw", "throws", "try", "catch", "synchronized", "assert", "instanceof",
        "null", "float", "double", "String", "Math", "Integer", "System", "Arrays", "Object", "->", "::",
    };

    private static void face() throws IllegalAccessException {
        Class<?> c = AbstractValues.class;
        Check.due("public and final", c.getModifiers(), Modifier.PUBLIC | Modifier.FINAL);
        Check.due("no nested class", c.getDeclaredClasses().length, 0);
        Check.due("one constructor", c.getDeclaredConstructors().length, 1);
        for (Constructor<?> made : c.getDeclaredConstructors()) {
            Check.due("the constructor is public", made.getModifiers(), Modifier.PUBLIC);
            Check.due("the constructor has no parameter", made.getParameterCount(), 0);
        }
        Set<String> found = new TreeSet<>();
        for (Field f : c.getDeclaredFields()) {
            if (!Modifier.isPrivate(f.getModifiers())) {
                int constant = Modifier.PUBLIC | Modifier.STATIC | Modifier.FINAL;
                Check.due(f + " is a public constant", f.getModifiers(), constant);
                found.add(f.getType() + " " + f.getName() + " = " + f.get(null));
            }
        }
        for (Method m : c.getDeclaredMethods()) {
            if (!Modifier.isPrivate(m.getModifiers())) {
                Check.due(m + " is public and no more", m.getModifiers(), Modifier.PUBLIC);
                found.add(m.getReturnType() + " " + m.getName() + Arrays.toString(m.getParameterTypes()));
            }
        }
        Check.due("the face: " + found, found.equals(FACE), true);
    }

    private static boolean isAllowed(Class<?> type) {
        Class<?> element = type.isArray() ? type.getComponentType() : type;
        return element.isPrimitive() && element != float.class && element != double.class;
    }

    private static void members() {
        Class<?> c = AbstractValues.class;
        int fields = 0;
        for (Field f : c.getDeclaredFields()) {
            boolean isStatic = Modifier.isStatic(f.getModifiers());
            fields += isStatic ? 0 : 1;
            Check.due("type of " + f, isAllowed(f.getType()), true);
            boolean isConstant = Modifier.isFinal(f.getModifiers())
                && (f.getType() == int.class || f.getType() == long.class);
            Check.due("static and no constant: " + f, isStatic && !isConstant, false);
        }
        Check.due("at most forty fields", fields <= 40, true);
        for (Method m : c.getDeclaredMethods()) {
            boolean isPrivate = Modifier.isPrivate(m.getModifiers());
            Check.due("private with a public name: " + m, isPrivate && PUBLIC_NAMES.contains(m.getName()), false);
            Check.due("at most seven parameters: " + m, m.getParameterCount() <= 7, true);
            Check.due("answers no array: " + m, m.getReturnType().isArray(), false);
            for (Class<?> type : m.getParameterTypes()) {
                Check.due("parameter types of " + m, isAllowed(type), true);
            }
        }
    }

    private static void source() throws IOException {
        String text = Files.readString(Path.of(SOURCE))
            .replaceAll("(?s)/\\*.*?\\*/", " ").replaceAll("//[^\n]*", " ");
        for (String word : FORBIDDEN) {
            String pattern = Character.isLetter(word.charAt(0)) ? "\\b" + word + "\\b" : word;
            Check.due("uses of " + word, text.split(pattern, -1).length - 1, 0);
        }
        String outsideConstructor = text.replaceAll("(?s)public AbstractValues\\(\\).*?\n    \\}", " ");
        String array = "\\bprivate (final )?\\w+\\[\\] \\w+ = new \\w+\\[([A-Z][A-Z0-9_]*|[1-9][0-9]*)\\];";
        int made = outsideConstructor.split("\\bnew\\b", -1).length;
        Check.due("arrays made in fields or the constructor", outsideConstructor.split(array, -1).length, made);
    }

    /**
     * The level shows in no answer, so that a new object has level 1 (promise 1) and that a refused k
     * leaves the level alone (promise 13) can only be seen inside. How it is held is free: under another
     * name it is not looked at.
     */
    private static void level() throws IllegalAccessException {
        for (Field f : AbstractValues.class.getDeclaredFields()) {
            if (f.getName().equals("workLevel")) {
                f.setAccessible(true);
                levelIn(f);
                return;
            }
        }
        System.out.println("no field workLevel: the level has not been looked at");
    }

    private static void levelIn(Field f) throws IllegalAccessException {
        AbstractValues x = new AbstractValues();
        Check.due("the level of a new object", f.getInt(x), 1);
        for (int k : new int[] {0, 1, 0}) {
            x.level(k);
            Check.due("after level(" + k + ")", f.getInt(x), k);
            for (int far : Check.outside(0, 1)) {
                x.level(far);
                Check.due("after level(" + far + ") at level " + k, f.getInt(x), k);
            }
        }
    }

    public static void main(String[] args) throws IllegalAccessException, IOException {
        face();
        members();
        source();
        level();
        Check.finish();
    }
}
