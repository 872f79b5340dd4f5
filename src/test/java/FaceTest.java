import java.io.IOException;
import java.lang.reflect.Constructor;
import java.lang.reflect.Field;
import java.lang.reflect.Method;
import java.lang.reflect.Modifier;
import java.nio.file.Files;
import java.nio.file.Path;
import java.util.Set;
import java.util.TreeSet;

/** The public face, and those of the language's rules that can be read off the class and its file. */
public final class FaceTest {
    private static final Path FILE = Path.of("src/main/java/MacroReckoner.java");
    private static final String IMPORTS = "import java\\.util\\.(ArrayList|List|Arrays|Iterator|NoSuchElementException);";

    public static void main(String[] args) throws IOException {
        members();
        constants();
        values();
        nestedClasses();
        source();
        Desk.close("FaceTest");
    }

    private static void members() {
        Set<String> due = new TreeSet<>(Set.of(
            "boolean type(char)", "int run(int) IllegalArgumentException", "int drop()", "int depth()",
            "int scale()", "int running()", "boolean isText(char) IllegalArgumentException",
            "int printed()", "char charAt(int)", "int tear()"));
        Set<String> open = new TreeSet<>();
        Set<String> openNames = new TreeSet<>();
        Set<String> hiddenNames = new TreeSet<>();
        for (Method method : MacroReckoner.class.getDeclaredMethods()) {
            if (Modifier.isPrivate(method.getModifiers())) {
                hiddenNames.add(method.getName());
            } else {
                open.add(written(method));
                openNames.add(method.getName());
                Desk.same(method + " is public", Modifier.isPublic(method.getModifiers()), true);
            }
        }
        Desk.same("the open methods", open, due);
        hiddenNames.retainAll(openNames);
        Desk.same("names that are open and hidden", hiddenNames, new TreeSet<String>());
        Constructor<?>[] constructors = MacroReckoner.class.getDeclaredConstructors();
        Desk.same("constructors", constructors.length, 1);
        Desk.same("the constructor", constructors[0].toString(), "public MacroReckoner()");
        Desk.same("the class", Modifier.toString(MacroReckoner.class.getModifiers()), "public final");
    }

    private static String written(Method method) {
        StringBuilder text = new StringBuilder(method.getReturnType().getSimpleName());
        text.append(' ').append(method.getName()).append('(');
        for (Class<?> type : method.getParameterTypes()) {
            text.append(type.getSimpleName());
        }
        text.append(')');
        for (Class<?> type : method.getExceptionTypes()) {
            text.append(' ').append(type.getSimpleName());
        }
        return text.toString();
    }

    private static void constants() {
        Set<String> due = new TreeSet<>(Set.of("IDLE", "MORE", "WAITS", "BAD", "EMPTY", "TYPE", "RANGE",
            "ZERO", "ROOT", "SIZE", "FULL", "DEEP", "OVER"));
        Set<String> open = new TreeSet<>();
        int own = 0;
        for (Field field : MacroReckoner.class.getDeclaredFields()) {
            int modifiers = field.getModifiers();
            if (!Modifier.isPrivate(modifiers)) {
                open.add(field.getName());
                Desk.same(field.getName(), Modifier.toString(modifiers), "public static final");
            }
            if (Modifier.isStatic(modifiers)) {
                Desk.same(field + " is final", Modifier.isFinal(modifiers), true);
            } else {
                own++;
            }
        }
        Desk.same("the open constants", open, due);
        Desk.same("at most twenty fields", own <= 20, true);
    }

    private static void values() {
        int[] due = {0, 1, 2, -1, -2, -3, -4, -5, -6, -7, -8, -9, -10};
        int[] got = {MacroReckoner.IDLE, MacroReckoner.MORE, MacroReckoner.WAITS, MacroReckoner.BAD,
            MacroReckoner.EMPTY, MacroReckoner.TYPE, MacroReckoner.RANGE, MacroReckoner.ZERO, MacroReckoner.ROOT,
            MacroReckoner.SIZE, MacroReckoner.FULL, MacroReckoner.DEEP, MacroReckoner.OVER};
        for (int i = 0; i < due.length; i++) {
            Desk.same("constant " + i, got[i], due[i]);
        }
    }

    private static void nestedClasses() {
        Class<?>[] classes = MacroReckoner.class.getDeclaredClasses();
        Desk.same("at most twelve classes", classes.length < 12, true);
        for (Class<?> inside : classes) {
            int modifiers = inside.getModifiers();
            Desk.same(inside + " is static", Modifier.isStatic(modifiers), true);
            Desk.same(inside + " is not open", Modifier.isPublic(modifiers) || Modifier.isProtected(modifiers), false);
        }
    }

    private static void source() throws IOException {
        String[] never = {"package ", "::", "finally", "synchronized", "assert ", "static {", "Exact(", "getMessage",
            "System.out", "System.err", "currentTimeMillis", "nanoTime", "Random", "Thread"};
        String text = Files.readString(FILE);
        for (String word : never) {
            Desk.same("the file has " + word, text.contains(word), false);
        }
        for (String line : text.split("\n")) {
            boolean wrongImport = line.startsWith("import ") && !line.matches(IMPORTS);
            boolean lambda = line.contains("->") && !line.matches(" *(case|default)\\b.*");
            Desk.same("the language has no " + line, wrongImport || lambda, false);
        }
        methodsAreShort(text);
    }

    private static void methodsAreShort(String text) {
        int longest = 0;
        int start = 0;
        int number = 0;
        for (String line : text.split("\n")) {
            number++;
            if (line.matches(" {4}( {4})?[^ /*}].*\\) .*\\{")) {
                start = number;
            } else if (line.matches(" {4}( {4})?\\}")) {
                longest = Math.max(longest, start > 0 ? number - start + 1 : 0);
                start = 0;
            }
        }
        Desk.same("methods are short (" + longest + " lines)", longest > 5 && longest <= 60, true);
    }
}
