import java.io.IOException;
import java.lang.reflect.InvocationTargetException;
import java.lang.reflect.Method;
import java.nio.file.Files;
import java.nio.file.Path;
import java.util.regex.Matcher;
import java.util.regex.Pattern;

/** README.md shows calls with their answers: they are called in that order, so that none is shown wrongly. */
public final class ReadmeTest {
    private static final Pattern SHOWN =
        Pattern.compile("x\\.(\\w+)\\((.*)\\); *// (-?\\d+|true|false|throws \\w+|nothing)\\b.*");

    public static void main(String[] args) throws IOException {
        OnceVolume x = new OnceVolume();
        int shown = 0;
        for (String line : Files.readAllLines(Path.of("README.md"))) {
            Matcher matcher = SHOWN.matcher(line);
            if (matcher.matches()) {
                shown++;
                look(x, matcher.group(1), matcher.group(2), matcher.group(3));
            } else {
                Check.due("a call with no answer that could be looked at: " + line, false, line.startsWith("x."));
            }
        }
        Check.due("README.md shows calls", true, shown > 0);
        Check.end();
    }

    private static void look(OnceVolume x, String name, String given, String want) {
        String got = answer(x, name, given);
        if (!got.equals(want)) {
            System.out.println("README.md shows " + want + ", but it is " + got);
        }
        Check.due(name + "(" + given + ")", true, got.equals(want));
    }

    private static String answer(OnceVolume x, String name, String given) {
        try {
            Object answer = methodOf(name).invoke(x, values(given));
            return answer == null ? "nothing" : answer.toString();
        } catch (InvocationTargetException e) {
            return "throws " + e.getCause().getClass().getSimpleName();
        } catch (IllegalAccessException e) {
            return "is not of the face";
        }
    }

    private static Method methodOf(String name) {
        for (Method method : OnceVolume.class.getMethods()) {
            if (method.getName().equals(name)) {
                return method;
            }
        }
        throw new IllegalStateException("README.md shows a call that is not of the face: " + name);
    }

    private static Object[] values(String given) {
        String[] parts = given.isEmpty() ? new String[0] : given.split(", *");
        Object[] values = new Object[parts.length];
        for (int i = 0; i < parts.length; i++) {
            values[i] = value(parts[i]);
        }
        return values;
    }

    private static Object value(String part) {
        if (part.equals("true") || part.equals("false")) {
            return part.equals("true");
        }
        return part.equals("OnceVolume.NONE") ? OnceVolume.NONE : (int) (long) Long.decode(part);
    }
}
