import java.lang.reflect.InvocationTargetException;
import java.lang.reflect.Method;
import java.nio.file.Files;
import java.nio.file.Path;
import java.util.regex.Matcher;
import java.util.regex.Pattern;

/** Makes the calls that README.md shows, one after the other, and compares the answers that it gives behind them. */
final class ReadmeTest {
    private static final String FIRST = "    LorryArms x = new LorryArms();";
    private static final Pattern SHOWN = Pattern.compile(
            "    x\\.(\\w+)\\(([^)]*)\\); +// (-?\\d+|throws\\.\\w+)(?: \\(NONE\\))?(?::.*)?");

    public static void main(String[] args) throws Exception {
        LorryArms x = null;
        for (String line : Files.readAllLines(Path.of("README.md"))) {
            if (line.equals(FIRST)) {
                x = new LorryArms();
            } else if (line.startsWith("    x.")) {
                show(x, line);
            }
        }
        Due.end("ReadmeTest");
    }

    private static void show(LorryArms x, String line) throws Exception {
        Matcher m = SHOWN.matcher(line);
        boolean readable = m.matches();
        Due.same("whether the line is a call with its answer:" + line, Boolean.toString(readable), "true");
        if (readable) {
            Due.same("README.md:" + line, answer(x, m.group(1), m.group(2)), m.group(3));
        }
    }

    private static String answer(LorryArms x, String name, String arguments) throws Exception {
        String[] words = arguments.isEmpty() ? new String[0] : arguments.split(", ");
        for (Method method : LorryArms.class.getMethods()) {
            if (method.getName().equals(name) && method.getParameterCount() == words.length) {
                return answer(x, method, words);
            }
        }
        return "no such call";
    }

    private static String answer(LorryArms x, Method method, String[] words) throws Exception {
        Class<?>[] types = method.getParameterTypes();
        Object[] values = new Object[words.length];
        for (int i = 0; i < words.length; i++) {
            values[i] = value(types[i], words[i]);
        }
        try {
            return String.valueOf(method.invoke(x, values));
        } catch (InvocationTargetException e) {
            return "throws." + e.getCause().getClass().getSimpleName();
        }
    }

    private static Object value(Class<?> type, String word) {
        if (type == boolean.class) {
            return Boolean.valueOf(word);
        }
        if (type == long.class) {
            return Long.valueOf(word.replace("L", ""));
        }
        return word.charAt(0) == '\'' ? Integer.valueOf(word.charAt(1)) : Integer.valueOf(word);
    }
}
