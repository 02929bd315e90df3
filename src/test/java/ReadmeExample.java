import java.io.IOException;
import java.lang.reflect.Method;
import java.nio.file.Files;
import java.nio.file.Path;
import java.util.regex.Matcher;
import java.util.regex.Pattern;

/** README.md's example answers what README.md says it does. It is run from the project's directory. */
public final class ReadmeExample {
    private static final Pattern MADE = Pattern.compile("ProcRing ring = new ProcRing\\((\\d+)\\); .*");
    private static final Pattern CALLED = Pattern.compile("ring\\.(\\w+)\\(([-\\d, ]*)\\); +// ([-\\w]+): .*");

    public static void main(String[] args) throws IOException, ReflectiveOperationException {
        Check check = new Check();
        ProcRing ring = null;
        for (String line : Files.readAllLines(Path.of("README.md"))) {
            Matcher made = MADE.matcher(line);
            Matcher called = CALLED.matcher(line);
            if (made.matches()) {
                ring = new ProcRing(Integer.parseInt(made.group(1)));
            } else if (called.matches()) {
                String got = String.valueOf(answer(ring, called.group(1), called.group(2)));
                check.due(line + " (answered " + got + ")", got.equals(called.group(3)), true);
            } else if (line.startsWith("ring.")) {
                check.due(line + " (says no answer)", false, true);
            }
        }
        check.due("the example is there", ring != null, true);
        check.end();
    }

    private static Object answer(ProcRing ring, String name, String written) throws ReflectiveOperationException {
        String[] words = written.isEmpty() ? new String[0] : written.split(", ");
        Class<?>[] types = new Class<?>[words.length];
        Object[] values = new Object[words.length];
        for (int i = 0; i < words.length; i++) {
            types[i] = int.class;
            values[i] = Integer.valueOf(words[i]);
        }
        Method method = ProcRing.class.getMethod(name, types);
        return method.invoke(ring, values);
    }
}
