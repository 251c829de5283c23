import java.io.IOException;
import java.lang.reflect.Method;
import java.lang.reflect.Modifier;
import java.nio.file.Files;
import java.nio.file.Path;
import java.util.Set;
import java.util.TreeSet;
import java.util.regex.Matcher;
import java.util.regex.Pattern;

/** What README.md tells a user: its calls with the answers behind them, and that it names every call. */
public final class ReadmeTest {
    private static final Due DUE = new Due("ReadmeTest");
    private static final Pattern EXAMPLE = Pattern.compile("game\\.(\\w+)\\(([0-9, ]*)\\); +// (-?\\d+)");

    private static Method callNamed(String name) {
        for (Method m : SixNumbers.class.getDeclaredMethods()) {
            if (m.getName().equals(name)) return m;
        }
        throw new IllegalStateException("README.md uses a call that there is not: " + name);
    }

    private static Object[] numbersIn(String text) {
        if (text.isBlank()) return new Object[0];
        String[] parts = text.split(", *");
        Object[] numbers = new Object[parts.length];
        for (int i = 0; i < parts.length; i++) numbers[i] = Integer.parseInt(parts[i].trim());
        return numbers;
    }

    private static void examples(String readme) throws ReflectiveOperationException {
        SixNumbers game = new SixNumbers();
        Matcher line = EXAMPLE.matcher(readme);
        int calls = 0;
        while (line.find()) {
            Number got = (Number) callNamed(line.group(1)).invoke(game, numbersIn(line.group(2)));
            DUE.is(line.group(1) + "(" + line.group(2) + ")", got.longValue(), Long.parseLong(line.group(3)));
            calls++;
        }
        DUE.is("README.md has examples", calls >= 20 ? 1 : 0, 1);
        DUE.is("the out after the examples", Made.outOf(game), "(3*8)");
    }

    private static void everyCallIsNamed(String readme) {
        Set<String> unnamed = new TreeSet<>();
        for (Method m : SixNumbers.class.getDeclaredMethods()) {
            if (Modifier.isPublic(m.getModifiers()) && !readme.contains("`" + m.getName() + "(")) unnamed.add(m.getName());
        }
        DUE.is("calls that README.md does not name", unnamed.toString(), "[]");
    }

    private static void everyTestIsNamed(String readme) throws IOException {
        Set<String> unnamed = new TreeSet<>();
        try (var files = Files.newDirectoryStream(Path.of("src/test/java"), "*Test.java")) {
            for (Path file : files) {
                String name = file.getFileName().toString().replace(".java", "");
                if (!readme.contains("`" + name + "`")) unnamed.add(name);
            }
        }
        DUE.is("tests that README.md does not name", unnamed.toString(), "[]");
    }

    public static void main(String[] args) throws IOException, ReflectiveOperationException {
        String readme = Files.readString(Path.of("README.md"));
        examples(readme);
        everyCallIsNamed(readme);
        everyTestIsNamed(readme);
        DUE.close();
    }
}
