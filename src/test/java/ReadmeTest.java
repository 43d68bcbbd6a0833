import java.io.IOException;
import java.lang.reflect.Method;
import java.lang.reflect.Modifier;
import java.nio.file.Files;
import java.nio.file.Path;
import java.util.regex.Matcher;
import java.util.regex.Pattern;

/** README.md: each call of its examples answers what stands behind it, and no call is left out of its tables. */
public final class ReadmeTest {
    private static final Pattern CALL = Pattern.compile("x\\.(\\w+)\\(([^)]*)\\);\\s+// (-?\\w+):.*");
    private static final int FEWEST_CALLS = 40;

    private SkittleMen x = null;
    private int calls = 0;

    public static void main(String[] args) throws IOException, ReflectiveOperationException {
        String readme = Files.readString(Path.of("README.md"));
        ReadmeTest test = new ReadmeTest();
        boolean java = false;
        for (String line : readme.split("\n")) {
            if (line.startsWith("```")) {
                java = line.equals("```java");
            } else if (java) {
                test.runLine(line);
            }
        }
        if (test.calls < FEWEST_CALLS) {
            Due.outside("README.md has " + test.calls + " calls in its examples");
        }
        for (Method m : SkittleMen.class.getDeclaredMethods()) {
            if (Modifier.isPublic(m.getModifiers()) && !Pattern.compile("\\|.*`" + m.getName() + "\\(.*\\|").matcher(readme).find()) {
                Due.outside("README.md has no row for " + m.getName());
            }
        }
        Due.end();
    }

    private void runLine(String line) throws ReflectiveOperationException {
        Matcher m = CALL.matcher(line);
        if (line.equals("SkittleMen x = new SkittleMen();")) {
            x = new SkittleMen();
        } else if (!m.matches() || x == null) {
            Due.outside("README.md: this line can't be run: " + line);
        } else {
            String[] given = m.group(2).isEmpty() ? new String[0] : m.group(2).split(", ");
            int[] numbers = new int[given.length];
            for (int i = 0; i < given.length; i++) {
                numbers[i] = numberOf(given[i].replace("SkittleMen.", ""));
            }
            calls++;
            int got = Trial.answer(x, m.group(1), numbers);
            if (got != numberOf(m.group(3))) {
                Due.outside("README.md: " + line + " (answered " + got + ")");
            }
        }
    }

    private static int numberOf(String word) throws ReflectiveOperationException {
        return Character.isUpperCase(word.charAt(0)) ? SkittleMen.class.getField(word).getInt(null) : Integer.decode(word);
    }
}
