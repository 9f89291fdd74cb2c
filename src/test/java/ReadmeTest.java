import java.io.IOException;
import java.lang.reflect.InvocationTargetException;
import java.lang.reflect.Method;
import java.nio.file.Files;
import java.nio.file.Path;
import java.util.regex.Matcher;
import java.util.regex.Pattern;

/** The calls that README.md shows answer what it says, and its text can be read. Run from the project's folder. */
public final class ReadmeTest {
    private static final Pattern CALL = Pattern.compile("^x\\.(\\w+)\\(([^)]*)\\);\\s*// (-?\\d+):", Pattern.MULTILINE);
    private static final Pattern TEXT = Pattern.compile("`(size [^`]*)`");

    private static Method named(String name) {
        for (Method m : BrothersField.class.getMethods()) {
            if (m.getName().equals(name)) {
                return m;
            }
        }
        throw new IllegalArgumentException(name);
    }

    private static long answer(BrothersField x, String name, String told) throws IllegalAccessException, InvocationTargetException {
        Method m = named(name);
        String[] parts = told.isEmpty() ? new String[0] : told.split(", ");
        Object[] arguments = new Object[parts.length];
        for (int i = 0; i < parts.length; i++) {
            boolean wide = m.getParameterTypes()[i] == long.class;
            arguments[i] = wide ? (Object) Long.parseLong(parts[i]) : (Object) Integer.parseInt(parts[i]);
        }
        return ((Number) m.invoke(x, arguments)).longValue();
    }

    private static void calls(String readme) throws IllegalAccessException, InvocationTargetException {
        BrothersField x = new BrothersField();
        int asked = 0;
        Matcher call = CALL.matcher(readme);
        while (call.find()) {
            asked++;
            Due.is(call.group(), answer(x, call.group(1), call.group(2)), Long.parseLong(call.group(3)));
        }
        Due.is("lines with a call", asked, readme.split("\nx\\.").length - 1);
    }

    private static void text(String readme) {
        Matcher text = TEXT.matcher(readme);
        Due.is("a text stands there", text.find() ? 1 : 0, 1);
        BrothersField x = new BrothersField();
        Made.text(x, 0, 0, text.group(1));
        Due.is("field", x.field(0), text.group(1).split(";").length);
    }

    public static void main(String[] args) throws IOException, IllegalAccessException, InvocationTargetException {
        String readme = Files.readString(Path.of("README.md"));
        calls(readme);
        text(readme);
        Due.end();
    }
}
