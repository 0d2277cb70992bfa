import java.lang.reflect.Constructor;
import java.lang.reflect.Field;
import java.lang.reflect.Method;
import java.lang.reflect.Modifier;
import java.nio.file.Files;
import java.nio.file.Path;
import java.util.Arrays;
import java.util.Set;
import java.util.TreeSet;
import java.util.regex.Matcher;
import java.util.regex.Pattern;

// The public face of the document, and what of LANGUAGE.md can be seen from outside; run in the project's folder.
public final class PartPagesFace {
    private static final String[] METHODS = {
        "voice/0", "bars/1", "note/6", "drop/2", "mark/3", "unmark/2", "instrument/3", "cueing/1", "extract/1", "row/3",
        "written/4", "unlike/1", "renew/1", "tacet/1", "lay/2", "pages/1", "page/3", "condensed/3", "together/2", "count/1"};
    private static final String[] CONSTANTS = {"NONE", "UNKNOWN", "OUTSIDE", "STATE", "ROOM"};
    private static final int MOST_LINES = 60;

    private static int wrong = 0;

    public static void main(String[] args) throws Exception {
        constants();
        methods();
        constructors();
        nestedClasses();
        words();
        methodLengths();
        System.out.println(wrong == 0 ? "the face is as due" : wrong + " things are not as due");
        if (wrong != 0) {
            System.exit(1);
        }
    }

    private static void due(String what, boolean holds) {
        if (!holds) {
            wrong++;
            System.out.println("not as due: " + what);
        }
    }

    private static void constants() throws Exception {
        Set<String> seen = new TreeSet<>();
        for (Field field : PartPages.class.getDeclaredFields()) {
            boolean isPrivate = Modifier.isPrivate(field.getModifiers());
            due("static field " + field.getName() + " is final",
                    !Modifier.isStatic(field.getModifiers()) || Modifier.isFinal(field.getModifiers()));
            if (!isPrivate) {
                seen.add(field.getName());
                due(field.getName() + " is a public constant of int", field.getType() == int.class
                        && field.getModifiers() == (Modifier.PUBLIC | Modifier.STATIC | Modifier.FINAL));
            }
        }
        due("constants " + seen, seen.equals(new TreeSet<>(Arrays.asList(CONSTANTS))));
        for (int k = 0; k < CONSTANTS.length; k++) {
            due(CONSTANTS[k], PartPages.class.getField(CONSTANTS[k]).getInt(null) == -100 - k);
        }
    }

    private static Set<String> publicNames() {
        Set<String> names = new TreeSet<>();
        for (String one : METHODS) {
            names.add(one.substring(0, one.indexOf('/')));
        }
        return names;
    }

    private static void methods() {
        Set<String> seen = new TreeSet<>();
        Set<String> names = publicNames();
        for (Method method : PartPages.class.getDeclaredMethods()) {
            if (Modifier.isPrivate(method.getModifiers())) {
                due("private method " + method.getName() + " has a name of its own", !names.contains(method.getName()));
                continue;
            }
            seen.add(method.getName() + "/" + method.getParameterCount());
            due(method + " takes and answers ints", method.getReturnType() == int.class
                    && Arrays.stream(method.getParameterTypes()).allMatch(type -> type == int.class));
            due(method + " is public and not static", method.getModifiers() == Modifier.PUBLIC);
        }
        due("methods " + seen, seen.equals(new TreeSet<>(Arrays.asList(METHODS))));
    }

    private static void constructors() {
        Constructor<?>[] all = PartPages.class.getDeclaredConstructors();
        due("one public constructor without parameters", all.length == 1 && all[0].getParameterCount() == 0
                && all[0].getModifiers() == Modifier.PUBLIC);
        due("a public final class", PartPages.class.getModifiers() == (Modifier.PUBLIC | Modifier.FINAL));
    }

    private static void nestedClasses() {
        Class<?>[] inside = PartPages.class.getDeclaredClasses();
        due("at most twelve classes", inside.length < 12);
        for (Class<?> one : inside) {
            due(one.getName() + " is static", Modifier.isStatic(one.getModifiers()));
            due(one.getName() + " is not public", !Modifier.isPublic(one.getModifiers())
                    && !Modifier.isProtected(one.getModifiers()));
            for (Method method : one.getDeclaredMethods()) {
                due(method + " takes at most seven", method.getParameterCount() <= 7);
                due(method + " has a name of its own", !publicNames().contains(method.getName()));
            }
        }
    }

    private static String source() throws Exception {
        return Files.readString(Path.of("src/main/java/PartPages.java"));
    }

    private static void words() throws Exception {
        String bare = source().replaceAll("(?s)/\\*.*?\\*/", "").replaceAll("//[^\n]*", "");
        String[] refused = {"throw", "throws", "try", "catch", "finally", "synchronized", "assert", "package", "protected",
            "->", "::", "Exact\\b", "System\\.(?!arraycopy)", "float", "double", "Object", "equals", "hashCode", "toString"};
        for (String word : refused) {
            String pattern = Character.isLetter(word.charAt(0)) && !word.contains("\\") ? "\\b" + word + "\\b" : word;
            due("no " + word, !Pattern.compile(pattern).matcher(bare).find());
        }
        Matcher imports = Pattern.compile("import ([^;]+);").matcher(bare);
        while (imports.find()) {
            due("import of " + imports.group(1), imports.group(1).equals("java.util.Arrays"));
        }
        due("no package line", !bare.startsWith("package"));
    }

    /** By the depth of braces: a method's body is opened on the line of its head, and closed at the same indent. */
    private static void methodLengths() throws Exception {
        String[] lines = source().split("\n");
        Pattern head = Pattern.compile("^( {4}| {8})(?! )[^=;]*\\(.*\\{$");
        for (int k = 0; k < lines.length; k++) {
            Matcher found = head.matcher(lines[k]);
            if (!found.find()) {
                continue;
            }
            int end = k + 1;
            while (end < lines.length && !lines[end].equals(found.group(1) + "}")) {
                end++;
            }
            due("short: " + lines[k].trim(), end - k < MOST_LINES);
        }
    }
}
