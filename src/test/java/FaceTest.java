import java.io.IOException;
import java.lang.reflect.Constructor;
import java.lang.reflect.Field;
import java.lang.reflect.Method;
import java.lang.reflect.Modifier;
import java.nio.file.Files;
import java.nio.file.Path;
import java.util.List;
import java.util.TreeSet;
import java.util.regex.Pattern;

/** The public face, and the rules of LANGUAGE.md that can be seen from the class or from the file's words. */
public final class FaceTest {
    private static final List<String> FACE = List.of(
        "boolean feed(int,int,int,int,int)", "boolean end(int)", "int compile()", "int count(int)", "int task(int,int)",
        "int check(int)", "int slack(int)", "int slot(int,int)", "void reset(int)", "void takes(int,int)",
        "void sensor(int,int)", "void tick(int)", "int port(int,int)", "int denoted(int)", "int state(int)",
        "int running(int)");
    private static final List<String> OUTSIDE = List.of("->", "::", "\\bfinally\\b", "\\bsynchronized\\b", "\\bassert\\b",
        "getMessage", "Exact\\b", "\\bSystem\\.(?!arraycopy)", "\\bhashCode\\b", "\\btoString\\b", "^\\s*static \\{",
        "\\bpackage\\b", "\\b(protected|volatile|transient|native)\\b");
    private static final List<String> IMPORTS = List.of(
        "import java.util.Arrays;", "import java.util.NoSuchElementException;");

    public static void main(String[] args) throws IOException {
        face();
        inside();
        words();
        Due.close();
    }

    private static void face() {
        TreeSet<String> names = new TreeSet<>();
        TreeSet<String> publics = new TreeSet<>();
        for (Method method : LogicalTimes.class.getDeclaredMethods()) {
            if (Modifier.isPublic(method.getModifiers())) {
                publics.add(signature(method));
                names.add(method.getName());
            }
        }
        Due.holds("the public methods are the document's: " + publics, publics.equals(new TreeSet<>(FACE)));
        for (Method method : LogicalTimes.class.getDeclaredMethods()) {
            int modifiers = method.getModifiers();
            Due.holds(method + " is public or private", Modifier.isPublic(modifiers) || Modifier.isPrivate(modifiers));
            Due.holds(method + " has a name of its own", Modifier.isPublic(modifiers) || !names.contains(method.getName()));
        }
        for (Field field : LogicalTimes.class.getDeclaredFields()) {
            Due.holds(field + " is private", Modifier.isPrivate(field.getModifiers()));
        }
        Constructor<?>[] constructors = LogicalTimes.class.getDeclaredConstructors();
        Due.holds("one public constructor", constructors.length == 1 && Modifier.isPublic(constructors[0].getModifiers())
            && constructors[0].getParameterCount() == 0);
        Due.holds("a final class", Modifier.isFinal(LogicalTimes.class.getModifiers()));
    }

    private static String signature(Method method) {
        StringBuilder text = new StringBuilder(method.getReturnType() + " " + method.getName() + "(");
        Class<?>[] types = method.getParameterTypes();
        for (int i = 0; i < types.length; i++) {
            text.append(i == 0 ? "" : ",").append(types[i]);
        }
        return text.append(')').toString();
    }

    private static void inside() {
        Class<?>[] classes = LogicalTimes.class.getDeclaredClasses();
        Due.holds("some twelve classes", classes.length < 13);
        for (Class<?> inner : classes) {
            Due.holds(inner + " is static", Modifier.isStatic(inner.getModifiers()));
            Due.holds(inner + " is not public", !Modifier.isPublic(inner.getModifiers()));
            for (Field field : inner.getDeclaredFields()) {
                int modifiers = field.getModifiers();
                Due.holds(field + " is final if static", !Modifier.isStatic(modifiers) || Modifier.isFinal(modifiers));
            }
            for (Method method : inner.getDeclaredMethods()) {
                Due.holds(method + " has at most seven parameters", method.getParameterCount() <= 7);
            }
        }
    }

    private static void words() throws IOException {
        List<String> lines = Files.readAllLines(Path.of("src/main/java/LogicalTimes.java"));
        for (String line : lines) {
            String code = line.strip();
            if (code.startsWith("*") || code.startsWith("/")) {
                continue;
            }
            for (String pattern : OUTSIDE) {
                Due.holds(pattern + " stands in " + line, !Pattern.compile(pattern).matcher(line).find());
            }
            Due.holds("an import outside the rules: " + line, !code.startsWith("import") || IMPORTS.contains(code));
        }
    }
}
