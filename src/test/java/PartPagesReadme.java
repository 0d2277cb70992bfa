import java.lang.reflect.InvocationTargetException;
import java.lang.reflect.Method;
import java.lang.reflect.Modifier;
import java.nio.file.Files;
import java.nio.file.Path;
import java.util.ArrayList;
import java.util.Arrays;
import java.util.HashMap;
import java.util.List;
import java.util.Map;
import java.util.Set;
import java.util.TreeSet;
import java.util.regex.Matcher;
import java.util.regex.Pattern;
import java.util.stream.Stream;

// What README.md shows of the class's use, read from it and run call by call; run in the project's folder.
public final class PartPagesReadme {
    private static final Path README = Path.of("README.md");
    private static final Path TESTS = Path.of("src/test/java");
    private static final int MOST_CALLS = 512;

    private static final Pattern MAKING = Pattern.compile("PartPages (\\w+) = new PartPages\\(\\);");
    private static final Pattern CALL = Pattern.compile(
            "(?:int (\\w+) = )?(\\w+)\\.(\\w+)\\(([^()]*)\\); +// (-?\\d+|[A-Z]+)(?:: .+)?");

    private static int wrong = 0;
    private static final Map<String, PartPages> objects = new HashMap<>();
    private static final Map<String, Integer> numbers = new HashMap<>();
    private static final Map<String, Integer> calls = new HashMap<>();
    private static final Set<String> methodsShown = new TreeSet<>();
    private static final Set<String> answersShown = new TreeSet<>();

    public static void main(String[] args) throws Exception {
        List<String> lines = Files.readAllLines(README);
        for (int k : linesOfJava(lines)) {
            runLine(k + 1, lines.get(k));
        }
        everyCallIsShown();
        everyTestIsNamed(String.join("\n", lines));
        System.out.println(wrong == 0 ? "README.md is as due" : wrong + " things in README.md are not as due");
        if (wrong != 0) {
            System.exit(1);
        }
    }

    private static void tell(int line, String what) {
        wrong++;
        System.out.println("README.md, line " + line + ": " + what);
    }

    private static void due(String what, boolean holds) {
        if (!holds) {
            wrong++;
            System.out.println("README.md: not as due: " + what);
        }
    }

    private static List<Integer> linesOfJava(List<String> lines) {
        List<Integer> inside = new ArrayList<>();
        boolean isJava = false;
        for (int k = 0; k < lines.size(); k++) {
            String line = lines.get(k);
            if (line.startsWith("```")) {
                isJava = line.equals("```java");
            } else if (isJava) {
                inside.add(k);
            }
        }
        due("calls are shown", !inside.isEmpty());
        return inside;
    }

    /** A line that is neither of both forms is told, so that none goes unread. */
    private static void runLine(int line, String text) throws Exception {
        Matcher making = MAKING.matcher(text);
        Matcher call = CALL.matcher(text);
        if (making.matches()) {
            objects.put(making.group(1), new PartPages());
        } else if (call.matches()) {
            runCall(line, call);
        } else {
            tell(line, "is neither a new object nor a call with its answer: " + text);
        }
    }

    private static void runCall(int line, Matcher call) throws Exception {
        PartPages object = objects.get(call.group(2));
        Method method = methodOf(call.group(3));
        if (object == null || method == null) {
            tell(line, "no such object or method: " + call.group(2) + "." + call.group(3));
            return;
        }
        Integer want = valueOf(call.group(5));
        Object[] given = argumentsOf(call.group(4));
        if (want == null || Arrays.asList(given).contains(null) || given.length != method.getParameterCount()) {
            tell(line, "arguments or an answer that cannot be read: " + call.group());
            return;
        }
        int got = answerOf(method, object, given);
        if (got != want) {
            tell(line, call.group(3) + "(" + call.group(4) + ") answered " + got + ", named is " + call.group(5));
        }
        if (call.group(1) != null) {
            numbers.put(call.group(1), got);
        }
        methodsShown.add(call.group(3));
        answersShown.add(call.group(5));
        due("at most " + MOST_CALLS + " calls of " + call.group(2),
                calls.merge(call.group(2), 1, Integer::sum) <= MOST_CALLS);
    }

    private static int answerOf(Method method, PartPages object, Object[] given) throws Exception {
        try {
            return (Integer) method.invoke(object, given);
        } catch (InvocationTargetException thrown) {
            throw new IllegalStateException(method.getName() + " threw", thrown.getCause());
        }
    }

    private static Method methodOf(String name) {
        return publicMethods().filter(method -> method.getName().equals(name)).findFirst().orElse(null);
    }

    private static Stream<Method> publicMethods() {
        return Arrays.stream(PartPages.class.getDeclaredMethods())
                .filter(method -> Modifier.isPublic(method.getModifiers()));
    }

    private static Object[] argumentsOf(String text) throws Exception {
        if (text.isEmpty()) {
            return new Object[0];
        }
        String[] parts = text.split(", ");
        Object[] given = new Object[parts.length];
        for (int k = 0; k < parts.length; k++) {
            given[k] = valueOf(parts[k]);
        }
        return given;
    }

    /** A number, a constant's name, or a name that stands before an earlier call; null if it is none. */
    private static Integer valueOf(String word) throws Exception {
        if (word.matches("-?\\d+")) {
            return Integer.valueOf(word);
        }
        if (constantNames().contains(word)) {
            return PartPages.class.getField(word).getInt(null);
        }
        return numbers.get(word);
    }

    private static Set<String> constantNames() {
        return Set.of("NONE", "UNKNOWN", "OUTSIDE", "STATE", "ROOM");
    }

    private static void everyCallIsShown() {
        publicMethods().forEach(method -> due("shows " + method.getName(), methodsShown.contains(method.getName())));
        constantNames().forEach(name -> due("shows an answer " + name, answersShown.contains(name)));
    }

    private static void everyTestIsNamed(String readme) throws Exception {
        due("names .ci/run", readme.contains("`.ci/run`"));
        due("names ../shared/tests", readme.contains("`../shared/tests`"));
        try (Stream<Path> files = Files.list(TESTS)) {
            for (Path file : files.sorted().toList()) {
                String name = file.getFileName().toString().replace(".java", "");
                due("names the test " + name, readme.contains("- `" + name + "`:"));
            }
        }
        Matcher named = Pattern.compile("(?m)^- `(PartPages\\w+)`:").matcher(readme);
        while (named.find()) {
            due("there is a test " + named.group(1), Files.exists(TESTS.resolve(named.group(1) + ".java")));
        }
    }
}
