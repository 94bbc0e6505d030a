import java.io.IOException;
import java.lang.reflect.InvocationTargetException;
import java.lang.reflect.Method;
import java.lang.reflect.Modifier;
import java.nio.file.Files;
import java.nio.file.Path;
import java.util.Arrays;
import java.util.List;
import java.util.Map;
import java.util.Set;
import java.util.TreeMap;
import java.util.TreeSet;
import java.util.regex.Matcher;
import java.util.regex.Pattern;
import java.util.stream.Collectors;
import java.util.stream.Stream;

/** What README.md shows of the class's use is so: its calls, and its tables of what may be called. */
public final class ReadmeTest extends Check {
    private static final String MAKING = "AbstractValues x = new AbstractValues();";
    private static final Pattern CALL = Pattern.compile("x\\.(\\w+)\\(([-0-9, ]*)\\); +// ([-\\w]+)(:.*)?");
    private static final Map<String, Integer> CODES =
        Map.of("BAD", BAD, "FULL", FULL, "INVALID", INVALID, "NONE", NONE);

    private static final List<Method> METHODS = Arrays.stream(AbstractValues.class.getDeclaredMethods())
        .filter(m -> Modifier.isPublic(m.getModifiers())).collect(Collectors.toList());

    private static String answerOf(AbstractValues x, String name, String arguments)
            throws IllegalAccessException, InvocationTargetException {
        Object[] numbers = Arrays.stream(arguments.split(", *")).filter(s -> !s.isEmpty())
            .map(Integer::valueOf).toArray();
        for (Method m : METHODS) {
            if (m.getName().equals(name) && m.getParameterCount() == numbers.length) {
                return String.valueOf(m.invoke(x, numbers));
            }
        }
        return "no such method";
    }

    private static String written(String answer) {
        return CODES.containsKey(answer) ? String.valueOf(CODES.get(answer)) : answer;
    }

    /** A line that is neither a call with its answer nor the making of an object fails the test. */
    private static void calls(List<String> readme) throws IllegalAccessException, InvocationTargetException {
        Set<String> shown = new TreeSet<>();
        AbstractValues x = null;
        boolean isJava = false;
        for (String line : readme) {
            Matcher call = CALL.matcher(line);
            if (line.startsWith("```")) {
                isJava = line.equals("```java");
                x = null;
            } else if (isJava && line.equals(MAKING)) {
                x = new AbstractValues();
            } else if (isJava && x != null && call.matches()) {
                shown.add(call.group(1));
                String got = answerOf(x, call.group(1), call.group(2));
                due(line + " (got " + got + ")", got.equals(written(call.group(3))), true);
            } else {
                due("a line of Java that cannot be tried: " + line, isJava, false);
            }
        }
        for (Method m : METHODS) {
            due(m.getName() + " is shown in use", shown.contains(m.getName()), true);
        }
    }

    /** The rows of the table whose first column has that heading, without the ` around code. */
    private static List<String[]> table(List<String> readme, String heading) {
        int start = 0;
        while (start < readme.size() && !readme.get(start).startsWith("| " + heading + " |")) {
            start++;
        }
        return readme.stream().skip(start + 2).takeWhile(line -> line.startsWith("|"))
            .map(line -> Arrays.stream(line.replace("`", "").substring(1).split("\\|"))
                .map(String::trim).toArray(String[]::new))
            .collect(Collectors.toList());
    }

    private static boolean isIn(String range, int x) {
        String[] ends = range.split("\\.\\.");
        return range.isEmpty() || (x >= Integer.parseInt(ends[0]) && x <= Integer.parseInt(ends[1]));
    }

    private static void statements(List<String> readme) {
        List<String[]> rows = table(readme, "op");
        due("rows of the table of statements", rows.size(), 7);
        for (String[] row : rows) {
            int op = Integer.parseInt(row[0]);
            boolean mustDiffer = row[2].contains("a and b differ");
            for (int a = -1; a <= 4; a++) {
                for (int b = -1; b <= 4; b++) {
                    for (int c = -9; c <= 22; c++) {
                        boolean isGood = isIn(row[3], a) && isIn(row[4], b) && isIn(row[5], c)
                            && !(mustDiffer && a == b);
                        String what = "README: " + row[1] + " with " + a + ", " + b + ", " + c;
                        due(what, new AbstractValues().emit(op, a, b, c), isGood ? 1 : BAD);
                    }
                }
            }
        }
    }

    private static void methods(List<String> readme) {
        Set<String> listed = new TreeSet<>();
        for (String[] row : table(readme, "method")) {
            listed.add(row[0].replaceAll("(int|boolean) \\w+(?=[,)])", "$1"));
        }
        Set<String> due = new TreeSet<>();
        for (Method m : METHODS) {
            String types = Arrays.stream(m.getParameterTypes()).map(Class::getName).collect(Collectors.joining(", "));
            due.add(m.getReturnType() + " " + m.getName() + "(" + types + ")");
        }
        due("README's methods " + listed, listed.equals(due), true);
    }

    private static void codes(List<String> readme) throws NoSuchFieldException, IllegalAccessException {
        Map<String, Integer> listed = new TreeMap<>();
        for (String[] row : table(readme, "code")) {
            listed.put(row[0], Integer.valueOf(row[1]));
            due("README's " + row[0], AbstractValues.class.getField(row[0]).getInt(null), listed.get(row[0]));
        }
        due("README's codes " + listed, listed.equals(CODES), true);
    }

    private static void tests(List<String> readme) throws IOException {
        String text = String.join("\n", readme);
        due("README says how to run the tests", text.contains("```sh\n.ci/run\n```"), true);
        due(".ci/run can be run", Files.isExecutable(Path.of(".ci/run")), true);
        try (Stream<Path> files = Files.list(Path.of("src/test/java"))) {
            files.map(file -> file.getFileName().toString()).filter(name -> name.endsWith("Test.java"))
                .map(name -> name.replace(".java", ""))
                .forEach(name -> due("README tells of " + name, text.contains("`" + name + "`"), true));
        }
    }

    public static void main(String[] args) throws IOException, ReflectiveOperationException {
        List<String> readme = Files.readAllLines(Path.of("README.md"));
        calls(readme);
        statements(readme);
        methods(readme);
        codes(readme);
        tests(readme);
        finish();
    }
}
