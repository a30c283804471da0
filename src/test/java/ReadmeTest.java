import java.io.IOException;
import java.lang.reflect.InvocationTargetException;
import java.lang.reflect.Method;
import java.lang.reflect.Modifier;
import java.nio.file.Files;
import java.nio.file.Path;
import java.util.regex.Matcher;
import java.util.regex.Pattern;

/** The examples of README.md: each call there has the answer that stands behind it. */
public final class ReadmeTest {
    private static final Pattern CALL = Pattern.compile("^bank\\.(\\w+)\\((.*)\\); +// (-?\\w+)");

    private ReadmeTest() {
    }

    public static void main(String[] args) throws IOException, IllegalAccessException, InvocationTargetException {
        VotedBank bank = new VotedBank();
        String page = Files.readString(Path.of("README.md"));
        int calls = 0;
        for (String line : page.split("\n")) {
            Matcher call = CALL.matcher(line);
            if (call.find()) {
                calls++;
                Object got = method(call.group(1)).invoke(bank, arguments(call.group(2)));
                Due.due("README.md: " + line + " answered " + got, String.valueOf(got).equals(call.group(3)), true);
            }
        }
        Due.due("every call of the page is read", calls, page.split("\nbank\\.", -1).length - 1);
        for (Method m : VotedBank.class.getDeclaredMethods()) {
            boolean isTold = Modifier.isPrivate(m.getModifiers())
                    || page.contains("`" + m.getName() + "`");
            Due.due("README.md tells of " + m.getName(), isTold, true);
        }
        Due.end();
    }

    private static Method method(String name) {
        for (Method m : VotedBank.class.getMethods()) {
            if (m.getName().equals(name)) {
                return m;
            }
        }
        throw new IllegalStateException("README.md calls what there is not: " + name);
    }

    private static Object[] arguments(String told) {
        if (told.isEmpty()) {
            return new Object[0];
        }
        String[] parts = told.split(", ");
        Object[] values = new Object[parts.length];
        for (int i = 0; i < parts.length; i++) {
            boolean isBoolean = parts[i].equals("true") || parts[i].equals("false");
            values[i] = isBoolean ? (Object) parts[i].equals("true") : (Object) number(parts[i]);
        }
        return values;
    }

    private static int number(String told) {
        return told.startsWith("0b") ? Integer.parseInt(told.substring(2), 2) : Integer.decode(told);
    }
}
