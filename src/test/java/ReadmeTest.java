import java.io.IOException;
import java.lang.reflect.Method;
import java.nio.file.Files;
import java.nio.file.Path;
import java.util.regex.Matcher;
import java.util.regex.Pattern;

/** README.md's example: each of its lines answers what its comment says. */
public final class ReadmeTest {
    /** A line such as "barn.read(2, 0, 3);   // BEYOND: why", in three groups. */
    private static final Pattern LINE =
            Pattern.compile("barn\\.(\\w+)\\(([^)]*)\\);\\s+// (-?\\w+)(?::.*)?");

    public static void main(String[] args) throws IOException, ReflectiveOperationException {
        Due due = new Due();
        ReelBarn barn = new ReelBarn();
        int lines = 0;
        // .ci/run starts every test in the project's own folder.
        for (String line : Files.readAllLines(Path.of("README.md"))) {
            if (line.startsWith("barn.")) {
                lines++;
                ask(due, barn, line);
            }
        }
        due.isTrue("README.md has an example", lines > 0);
        due.end();
    }

    private static void ask(Due due, ReelBarn barn, String line) throws ReflectiveOperationException {
        Matcher parts = LINE.matcher(line);
        boolean isCall = parts.matches();
        due.isTrue("a call and its answer: " + line, isCall);
        if (isCall) {
            due.is(line, answer(barn, parts.group(1), parts.group(2).split(", ")), wanted(parts.group(3)));
        }
    }

    private static long answer(ReelBarn barn, String name, String[] words) throws ReflectiveOperationException {
        for (Method method : ReelBarn.class.getMethods()) {
            if (method.getName().equals(name)) {
                return ((Number) method.invoke(barn, values(method.getParameterTypes(), words))).longValue();
            }
        }
        throw new NoSuchMethodException(name);
    }

    private static Object[] values(Class<?>[] types, String[] words) {
        Object[] values = new Object[words.length];
        for (int k = 0; k < words.length; k++) {
            values[k] = k < types.length && types[k] == boolean.class
                    ? (Object) Boolean.valueOf(words[k])
                    : (Object) Integer.valueOf(words[k]);
        }
        return values;
    }

    private static long wanted(String word) throws ReflectiveOperationException {
        return Character.isUpperCase(word.charAt(0))
                ? ReelBarn.class.getField(word).getLong(null)
                : Long.parseLong(word);
    }
}
