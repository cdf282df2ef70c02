import java.io.IOException;
import java.lang.reflect.Constructor;
import java.lang.reflect.Field;
import java.lang.reflect.Method;
import java.lang.reflect.Modifier;
import java.nio.file.Files;
import java.nio.file.Path;
import java.util.List;
import java.util.TreeSet;

/** The face of the class, and what LANGUAGE.md leaves out of its source. */
public final class LanguageTest {
    private static final List<String> CALLS = List.of("come/1", "cut/1", "drop/1", "end/1", "move/0", "net/2",
        "packet/3", "part/4", "read/2", "send/1", "shape/3", "side/2", "state/2", "stream/2", "tick/1", "told/1",
        "twice/1", "write/2");
    private static final List<String> CONSTANTS = List.of("FULL=-4", "NO=-5", "NONE=-6", "OUTSIDE=-2", "STATE=-3",
        "UNKNOWN=-1");
    private static final String[] LEFT_OUT = {"throw", "throws", "try", "catch", "synchronized", "assert",
        "package", "protected", "native", "transient", "volatile", "Thread", "Object", "hashCode"};
    private static final List<String> IMPORTS = List.of("ArrayList", "Arrays", "Iterator", "List");

    private static int wrong = 0;

    private LanguageTest() {
    }

    private static void check(boolean is, String what) {
        if (!is) {
            wrong++;
            System.out.println(what);
        }
    }

    public static void main(String[] args) throws IOException, IllegalAccessException {
        face();
        classesInside();
        source(Files.readString(Path.of("src/main/java/StreamCarrier.java")));
        System.out.println("the language: " + wrong + " faults");
        if (wrong != 0) {
            System.exit(1);
        }
    }

    private static void face() throws IllegalAccessException {
        Class<?> c = StreamCarrier.class;
        check(c.getModifiers() == (Modifier.PUBLIC | Modifier.FINAL), "the class is public and final");
        TreeSet<String> calls = new TreeSet<>();
        for (Method m : c.getDeclaredMethods()) {
            if (!Modifier.isPrivate(m.getModifiers())) {
                calls.add(m.getName() + "/" + m.getParameterCount());
                check(m.getModifiers() == Modifier.PUBLIC, m + " is public and no more");
                check(m.getReturnType() == int.class, m + " answers an int");
            } else {
                check(CALLS.stream().noneMatch(f -> f.startsWith(m.getName() + "/")), m + " bears a public name");
            }
            check(m.getParameterCount() <= 7, m + " takes at most seven");
        }
        check(calls.equals(new TreeSet<>(CALLS)), "the calls are " + calls);
        TreeSet<String> constants = new TreeSet<>();
        for (Field f : c.getDeclaredFields()) {
            if (!Modifier.isPrivate(f.getModifiers())) {
                constants.add(f.getName() + "=" + f.getInt(null));
                check(f.getModifiers() == (Modifier.PUBLIC | Modifier.STATIC | Modifier.FINAL), f + " is a constant");
            }
            check(!Modifier.isStatic(f.getModifiers()) || Modifier.isFinal(f.getModifiers()), f + " is final");
        }
        check(constants.equals(new TreeSet<>(CONSTANTS)), "the constants are " + constants);
        Constructor<?>[] made = c.getDeclaredConstructors();
        check(made.length == 1 && made[0].getParameterCount() == 0 && made[0].getModifiers() == Modifier.PUBLIC,
            "one constructor");
    }

    private static void classesInside() {
        Class<?>[] inside = StreamCarrier.class.getDeclaredClasses();
        check(inside.length <= 12, "classes inside: " + inside.length);
        for (Class<?> c : inside) {
            check(Modifier.isStatic(c.getModifiers()) && !Modifier.isPublic(c.getModifiers()), c + " is static");
            int fields = 0;
            for (Field f : c.getDeclaredFields()) {
                fields += Modifier.isStatic(f.getModifiers()) ? 0 : 1;
            }
            check(fields <= 20, c + " has " + fields + " fields");
            for (Method m : c.getDeclaredMethods()) {
                check(CALLS.stream().noneMatch(f -> f.startsWith(m.getName() + "/")), m + " bears a public name");
            }
        }
    }

    private static void source(String text) {
        String code = text.replaceAll("(?s)/\\*.*?\\*/", "").replaceAll("//[^\n]*", "");
        for (String word : LEFT_OUT) {
            check(!code.matches("(?s).*\\b" + word + "\\b.*"), "the source has " + word);
        }
        check(!code.contains("->") && !code.contains("::"), "the source has a lambda or a method reference");
        for (String one : code.split("\n")) {
            if (one.startsWith("import ")) {
                check(IMPORTS.stream().anyMatch(f -> one.equals("import java.util." + f + ";")),
            "not in the library: " + one);
            }
            check(!one.contains("System.") || one.contains("System.arraycopy("), "not in the library: " + one.trim());
        }
        int start = 0;
        String[] lines = text.split("\n");
        for (int i = 0; i < lines.length; i++) {
            if (lines[i].matches("( {4}| {8})[a-zA-Z].*\\) \\{")) {
                start = i;
            }
            if (lines[i].matches(" {4}( {4})?}")) {
                check(i - start <= 60, "a method of " + (i - start) + " lines ends at line " + (i + 1));
                start = i;
            }
            check(lines[i].length() <= 120, "a long line: " + (i + 1));
        }
    }
}
