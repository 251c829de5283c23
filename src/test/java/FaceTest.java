import java.io.IOException;
import java.lang.reflect.Constructor;
import java.lang.reflect.Field;
import java.lang.reflect.Method;
import java.lang.reflect.Modifier;
import java.nio.file.Files;
import java.nio.file.Path;
import java.util.Set;
import java.util.TreeSet;

/** The face of the document and no more, and of LANGUAGE.md's rules those that a look can tell. */
public final class FaceTest {
    private static final Due DUE = new Due("FaceTest");
    private static final Set<String> FACE = Set.of(
        "int item(int)", "int set(int, int)", "int cut(int)", "int rule(int, int)", "int told(int)",
        "long ways(int, int)", "long all(int)", "int reached(int)", "int value(int, int)", "int missing()",
        "int aim(int, int)", "int print(int)", "int printOf(int, int)", "int out(int)",
        "int card(int)", "int empty()", "int draws(int, int, int)", "int most(int, int)",
        "int span(int, int, int)", "int signs(int, int)");
    private static final String[] BANNED = {
        "import", "package", "throw", "throws", "try", "catch", "finally", "synchronized", "assert",
        "volatile", "transient", "native", "protected", "float", "double", "Math.sqrt", "System", "Object"};

    private static String signature(Method m) {
        StringBuilder text = new StringBuilder(m.getReturnType().getName() + " " + m.getName() + "(");
        for (Class<?> c : m.getParameterTypes()) {
            text.append(text.charAt(text.length() - 1) == '(' ? "" : ", ").append(c.getName());
        }
        return text.append(")").toString();
    }

    private static void face() {
        Set<String> found = new TreeSet<>();
        Set<String> names = new TreeSet<>();
        for (Method m : SixNumbers.class.getDeclaredMethods()) {
            if (m.isSynthetic()) continue;
            if (Modifier.isPublic(m.getModifiers())) {
                found.add(signature(m));
                names.add(m.getName());
                DUE.is("static " + m, Modifier.isStatic(m.getModifiers()) ? 1 : 0, 0);
            } else {
                DUE.is("private " + m, Modifier.isPrivate(m.getModifiers()) ? 1 : 0, 1);
            }
        }
        DUE.is("the face", found.toString(), new TreeSet<>(FACE).toString());
        for (Class<?> inside : SixNumbers.class.getDeclaredClasses()) {
            DUE.is("static " + inside, Modifier.isStatic(inside.getModifiers()) ? 1 : 0, 1);
            DUE.is("public " + inside, Modifier.isPublic(inside.getModifiers()) ? 1 : 0, 0);
        }
        for (Method m : SixNumbers.class.getDeclaredMethods()) {
            if (Modifier.isPrivate(m.getModifiers())) DUE.is("a public name on " + m, names.contains(m.getName()) ? 1 : 0, 0);
            DUE.is("parameters of " + m, m.getParameterCount() <= 7 ? 1 : 0, 1);
        }
        DUE.is("final", Modifier.isFinal(SixNumbers.class.getModifiers()) ? 1 : 0, 1);
    }

    private static void fieldsAndConstructors() {
        Set<String> constants = new TreeSet<>();
        for (Field f : SixNumbers.class.getDeclaredFields()) {
            if (Modifier.isPublic(f.getModifiers())) {
                constants.add(f.getName() + " " + f.getType() + " " + Modifier.toString(f.getModifiers()));
            } else {
                DUE.is("private " + f, Modifier.isPrivate(f.getModifiers()) ? 1 : 0, 1);
            }
            if (Modifier.isStatic(f.getModifiers())) DUE.is("final " + f, Modifier.isFinal(f.getModifiers()) ? 1 : 0, 1);
        }
        DUE.is("constants", constants.toString(), "[FULL int public static final, NONE int public static final, "
            + "NOT int public static final, OUTSIDE int public static final, UNKNOWN int public static final]");
        Constructor<?>[] made = SixNumbers.class.getDeclaredConstructors();
        DUE.is("constructors", made.length, 1);
        DUE.is("the constructor", made[0].toString(), "public SixNumbers()");
    }

    private static void language(Path source) throws IOException {
        String text = Files.readString(source).replaceAll("(?s)/\\*.*?\\*/", " ").replaceAll("//[^\n]*", " ");
        for (String word : BANNED) {
            DUE.is("the word " + word, text.matches("(?s).*\\b" + word.replace(".", "\\.") + "\\b.*") ? 1 : 0, 0);
        }
        for (String sign : new String[] {"->", "::", "@", "static {"}) DUE.is("the sign " + sign, text.contains(sign) ? 1 : 0, 0);
        DUE.is("bytes above 127", text.chars().allMatch(c -> c < 128) ? 1 : 0, 1);
    }

    public static void main(String[] args) throws IOException {
        face();
        fieldsAndConstructors();
        language(Path.of(args.length > 0 ? args[0] : "src/main/java/SixNumbers.java"));
        DUE.close();
    }
}
