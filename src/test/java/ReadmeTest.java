import java.io.IOException;
import java.lang.reflect.InvocationTargetException;
import java.lang.reflect.Method;
import java.nio.file.Files;
import java.nio.file.Path;
import java.util.regex.Matcher;
import java.util.regex.Pattern;

/** The example of README.md: each of its calls answers, or throws, what stands behind it. */
public final class ReadmeTest {
    private static final Pattern CALL = Pattern.compile("row\\.(\\w+)\\(([^)]*)\\);\\s*// (throws )?([^:]+)(:.*)?");
    private static final String NEW = "FiguredBass row = new FiguredBass();";

    private static int calls = 0;
    private static int wrong = 0;

    public static void main(String[] args) throws IOException, ReflectiveOperationException {
        FiguredBass row = null;
        boolean example = false;
        for (String line : Files.readAllLines(Path.of("README.md"))) {
            if (line.startsWith("```")) {
                example = line.equals("```java");
            } else if (example && line.equals(NEW)) {
                row = new FiguredBass();
            } else if (example && !line.isEmpty()) {
                ask(row, line);
            }
        }
        System.out.println(calls + " calls of README.md asked, " + wrong + " wrong");
        if (calls == 0 || wrong > 0) {
            System.exit(1);
        }
    }

    private static void ask(FiguredBass row, String line) throws ReflectiveOperationException {
        calls++;
        Matcher call = CALL.matcher(line);
        if (row == null || !call.matches()) {
            wrong(line, "it is no call that can be read");
            return;
        }
        String due = (call.group(3) == null ? "" : "throws ") + call.group(4).trim();
        String got = answer(row, call.group(1), call.group(2));
        if (!got.equals(due)) {
            wrong(line, got);
        }
    }

    private static String answer(FiguredBass row, String name, String given) throws ReflectiveOperationException {
        String[] words = given.isEmpty() ? new String[0] : given.split(", ");
        Class<?>[] types = new Class<?>[words.length];
        Object[] values = new Object[words.length];
        for (int k = 0; k < words.length; k++) {
            boolean key = words[k].equals("true") || words[k].equals("false");
            types[k] = key ? boolean.class : int.class;
            values[k] = key ? (Object) Boolean.valueOf(words[k]) : (Object) Integer.valueOf(words[k]);
        }
        Method method = FiguredBass.class.getMethod(name, types);
        try {
            return String.valueOf(method.invoke(row, values));
        } catch (InvocationTargetException e) {
            return "throws " + e.getCause().getClass().getSimpleName();
        }
    }

    private static void wrong(String line, String got) {
        wrong++;
        System.out.println("wrong in README.md: " + line + " .. but: " + got);
    }
}
