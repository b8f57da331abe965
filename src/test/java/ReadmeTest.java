import java.io.IOException;
import java.lang.reflect.Method;
import java.lang.reflect.Modifier;
import java.nio.file.Files;
import java.nio.file.Path;
import java.util.regex.Matcher;
import java.util.regex.Pattern;

/** README.md: its calls, made one by one, answer what stands behind them, and it names every call of the face. */
public final class ReadmeTest {
    private static final Pattern TOLD = Pattern.compile("tell\\(x, \"([^\"]*)\"\\);");
    private static final Pattern CALL = Pattern.compile("x\\.([a-z]+)\\(([^)]*)\\); +// (-?[a-z0-9]+)(:.*)?");

    private static SwapAssize x;

    public static void main(String[] args) throws IOException, ReflectiveOperationException {
        String readme = Files.readString(Path.of("README.md"));
        int calls = 0;
        for (String line : readme.split("\n")) {
            Matcher call = CALL.matcher(line);
            Matcher told = TOLD.matcher(line);
            if (line.equals("SwapAssize x = new SwapAssize();")) {
                x = new SwapAssize();
            } else if (told.matches()) {
                Check.feed(x, told.group(1));
            } else if (call.matches()) {
                Check.due(line, answer(call.group(1), call.group(2)), call.group(3));
                calls++;
            } else {
                Check.due("can't be read: " + line, line.startsWith("x.") || line.startsWith("tell("), false);
            }
        }
        Check.due("calls are shown", calls > 0, true);
        naming(readme);
        Check.end();
    }

    private static String answer(String name, String arguments) throws ReflectiveOperationException {
        String[] texts = arguments.isEmpty() ? new String[0] : arguments.split(", ");
        for (Method method : SwapAssize.class.getMethods()) {
            if (method.getName().equals(name) && method.getParameterCount() == texts.length) {
                Object[] values = new Object[texts.length];
                for (int n = 0; n < texts.length; n++) {
                    values[n] = Integer.valueOf(texts[n]);
                }
                return String.valueOf(method.invoke(x, values));
            }
        }
        return "nothing";
    }

    private static void naming(String readme) {
        for (Method method : SwapAssize.class.getDeclaredMethods()) {
            if (Modifier.isPublic(method.getModifiers())) {
                Check.due("README.md names " + method.getName(), readme.contains("`" + method.getName() + "`"), true);
            }
        }
    }
}
