import java.lang.reflect.Constructor;
import java.lang.reflect.Field;
import java.lang.reflect.Method;
import java.lang.reflect.Modifier;
import java.nio.file.Files;
import java.nio.file.Path;
import java.util.Set;
import java.util.TreeSet;
import java.util.regex.Matcher;
import java.util.regex.Pattern;

/** The document's face, and those rules of LANGUAGE.md that can be read off the source. */
public final class LanguageTest {
    private static final Path SOURCE = Path.of("src/main/java/SharedLine.java");
    private static final Set<String> FACE = Set.of(
            "type(int)", "clear()", "tells()", "gives(int,int)", "flips(int,int)", "mends()",
            "sets(int,int)", "undo()", "tick(int,int)", "share(int)", "best(int)", "slowest()",
            "change()", "busiest(int,int)", "tables(int)", "sees(int,int)", "forget()",
            "which(int)", "listen()", "keep(int)", "back(int)", "count(int)");
    private static final Set<String> CONSTANTS =
            Set.of("BAD", "STATE", "FULL", "NONE", "NO", "NOT");
    private static final Set<String> CONSTANT_TYPES = Set.of("int", "long", "boolean", "char",
            "String", "int[]", "long[]", "char[]", "byte[]");
    private static final String[] RULED_OUT = {
        "throw", "throws", "try", "catch", "finally", "synchronized", "assert", "->", "::",
        "volatile", "transient", "Exact", "HashMap", "Object", "Thread", "System\\.(?!arraycopy)"};
    // Beside the program's own classes; no other name that begins like a class's may stand there.
    private static final Set<String> LIBRARY =
            Set.of("String", "StringBuilder", "Integer", "Long", "Math", "System", "Arrays",
            "ArrayList", "List", "Iterator", "Iterable", "Comparable");
    private static final int MOST_LINES = 60;
    private static final int MOST_FIELDS = 20;
    private static final Checks CHECKS = new Checks();

    public static void main(String[] args) throws Exception {
        face();
        constants();
        fields(SharedLine.class);
        classesInside();
        source();
        CHECKS.end();
    }

    private static void face() {
        int flags = SharedLine.class.getModifiers();
        CHECKS.isTrue("public and final", Modifier.isPublic(flags) && Modifier.isFinal(flags));
        Set<String> open = new TreeSet<>();
        for (Method method : SharedLine.class.getDeclaredMethods()) {
            if (Modifier.isPrivate(method.getModifiers()) || method.isSynthetic()) {
                continue;
            }
            String shape = method.toGenericString();
            open.add(shape.substring(shape.lastIndexOf('.', shape.indexOf('(')) + 1));
            CHECKS.isTrue(shape + " is a public int",
                    shape.startsWith("public int "));
        }
        CHECKS.isTrue("the face is " + open, open.equals(FACE));
        Constructor<?>[] made = SharedLine.class.getDeclaredConstructors();
        CHECKS.isTrue("one public constructor without arguments", made.length == 1
                && Modifier.isPublic(made[0].getModifiers()) && made[0].getParameterCount() == 0);
    }

    private static void constants() throws Exception {
        Set<String> open = new TreeSet<>();
        for (Field field : SharedLine.class.getDeclaredFields()) {
            int flags = field.getModifiers();
            if (!Modifier.isPrivate(flags)) {
                open.add(field.getName());
            }
            CHECKS.isTrue(field + " is final where static",
                    !Modifier.isStatic(flags) || Modifier.isFinal(flags));
        }
        CHECKS.isTrue("the constants are " + open, open.equals(CONSTANTS));
        CHECKS.due("BAD", SharedLine.BAD, -1);
        CHECKS.due("STATE", SharedLine.STATE, -2);
        CHECKS.due("FULL", SharedLine.FULL, -3);
        CHECKS.due("NONE", SharedLine.NONE, -9);
        CHECKS.due("NO", SharedLine.NO, -1000000);
        CHECKS.due("NOT", SharedLine.NOT, -2000000);
    }

    private static void classesInside() {
        Class<?>[] inside = SharedLine.class.getDeclaredClasses();
        CHECKS.isTrue("twelve classes at most", inside.length <= 11);
        for (Class<?> one : inside) {
            CHECKS.isTrue(one + " is static", Modifier.isStatic(one.getModifiers()));
            CHECKS.isTrue(one + " is not open", !Modifier.isPublic(one.getModifiers())
                    && !Modifier.isProtected(one.getModifiers()));
            fields(one);
            for (Method method : one.getDeclaredMethods()) {
                CHECKS.isTrue(method + " has no name of the face",
                        FACE.stream().noneMatch(f -> f.startsWith(method.getName() + "(")));
                CHECKS.isTrue(method + " has seven parameters at most",
                        method.getParameterCount() <= 7);
            }
        }
        for (Method method : SharedLine.class.getDeclaredMethods()) {
            CHECKS.isTrue(method + " private, with no name of the face",
                    !Modifier.isPrivate(method.getModifiers())
                    || FACE.stream().noneMatch(f -> f.startsWith(method.getName() + "(")));
        }
    }

    /** Static ones are constants, of the types that rule 5 lists; the others are few. */
    private static void fields(Class<?> one) {
        int own = 0;
        for (Field field : one.getDeclaredFields()) {
            boolean isStatic = Modifier.isStatic(field.getModifiers());
            own += isStatic ? 0 : 1;
            CHECKS.isTrue(field + " is a constant where static", !isStatic
                    || Modifier.isFinal(field.getModifiers())
                    && CONSTANT_TYPES.contains(field.getType().getSimpleName()));
        }
        CHECKS.isTrue(one + " has few fields", own <= MOST_FIELDS);
    }

    private static void libraryNames(String code) {
        Set<String> own = new TreeSet<>(Set.of("SharedLine"));
        for (Class<?> one : SharedLine.class.getDeclaredClasses()) {
            own.add(one.getSimpleName());
        }
        Matcher name = Pattern.compile("\\b[A-Z]\\w*[a-z]\\w*")
                .matcher(code.replaceAll("\"[^\"\n]*\"", ""));
        while (name.find()) {
            CHECKS.isTrue("known to the language: " + name.group(),
                    own.contains(name.group()) || LIBRARY.contains(name.group()));
        }
    }

    private static void source() throws Exception {
        String source = Files.readString(SOURCE);
        String code = source.replaceAll("(?s)/\\*.*?\\*/", "").replaceAll("//.*", "");
        for (String word : RULED_OUT) {
            String edge = Character.isLetter(word.charAt(0)) ? "\\b" : "";
            Matcher found = Pattern.compile(edge + word).matcher(code);
            CHECKS.isTrue("no " + word, !found.find());
        }
        CHECKS.isTrue("signs 1 to 127 alone", source.chars().allMatch(c -> c >= 1 && c <= 127));
        CHECKS.isTrue("no package line", !Pattern.compile("(?m)^package ").matcher(code).find());
        CHECKS.isTrue("imports from java.util alone",
                !Pattern.compile("import (?!java\\.util\\.(Arrays|ArrayList|List);)")
                        .matcher(code).find());
        libraryNames(code);
        methodLengths(source);
    }

    /** A method's lines: from one opened at a member's depth to its closing brace. */
    private static void methodLengths(String source) {
        int depth = 0;
        int[] opened = new int[20];
        String[] lines = source.split("\n");
        for (int i = 0; i < lines.length; i++) {
            String line = lines[i].replaceAll("'.'", "").replaceAll("//.*", "");
            for (char c : line.toCharArray()) {
                if (c == '{') {
                    opened[depth++] = i;
                } else if (c == '}') {
                    depth--;
                    boolean isClass = lines[opened[depth]].contains(" class ");
                    CHECKS.isTrue("short: " + lines[opened[depth]].trim(),
                            isClass || i - opened[depth] < MOST_LINES);
                }
            }
        }
        CHECKS.due("braces left open", depth, 0);
    }
}
