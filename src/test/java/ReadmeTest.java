import java.io.IOException;
import java.lang.reflect.Method;
import java.nio.charset.StandardCharsets;
import java.nio.file.Files;
import java.nio.file.Path;
import java.util.regex.Matcher;
import java.util.regex.Pattern;

/** The examples of README.md, row by row: each call's answer is the one behind it; and all of the face stands there. */
public final class ReadmeTest {
    private static final Pattern CALL = Pattern.compile("x\\.(\\w+)\\(([^()]*)\\); +// (-?\\d+|true|false)(:.*)?");
    private static final Pattern TOLD = Pattern.compile("tell\\(x, (\\d), \"(.*)\"\\); +// (-?\\d+)(:.*)?");

    public static void main(String[] args) throws IOException, ReflectiveOperationException {
        String readme = Files.readString(Path.of("README.md"), StandardCharsets.UTF_8);
        TearCustoms x = new TearCustoms();
        int objects = 0;
        for (String line : readme.split("\n")) {
            Matcher call = CALL.matcher(line);
            Matcher told = TOLD.matcher(line);
            if (line.equals("TearCustoms x = new TearCustoms();")) {
                x = new TearCustoms();
                objects++;
            } else if (call.matches()) {
                Check.same(line, answer(x, call.group(1), call.group(2)).equals(call.group(3)), true);
            } else if (told.matches()) {
                Check.same(line, Check.tell(x, Integer.parseInt(told.group(1)), told.group(2)), Integer.parseInt(told.group(3)));
            } else {
                Check.same("a row that is not read: " + line, line.matches("(x\\.|tell\\().*"), false);
            }
        }
        Check.same("objects", objects, 4);
        for (Method m : TearCustoms.class.getMethods()) {
            if (m.getDeclaringClass() == TearCustoms.class) {
                Check.same(m.getName() + " stands in README.md", readme.contains("`" + m.getName() + "`"), true);
            }
        }
        Check.finish();
    }

    private static String answer(TearCustoms x, String name, String words) throws ReflectiveOperationException {
        String[] told = words.isEmpty() ? new String[0] : words.split(", ");
        for (Method m : TearCustoms.class.getMethods()) {
            if (m.getName().equals(name) && m.getParameterCount() == told.length) {
                Object[] values = new Object[told.length];
                for (int i = 0; i < told.length; i++) {
                    boolean number = m.getParameterTypes()[i] == int.class;
                    values[i] = number ? (Object) Integer.valueOf(told[i]) : (Object) Boolean.valueOf(told[i]);
                }
                return String.valueOf(m.invoke(x, values));
            }
        }
        return "no such call";
    }
}
