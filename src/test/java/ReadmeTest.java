import java.io.IOException;
import java.lang.reflect.InvocationTargetException;
import java.lang.reflect.Method;
import java.lang.reflect.Modifier;
import java.nio.file.Files;
import java.nio.file.Path;
import java.util.regex.Matcher;
import java.util.regex.Pattern;

/** The calls that README.md shows answer what it says behind them, and it names every call of the face. */
public final class ReadmeTest {
    private static final Due due = new Due("ReadmeTest");
    private static final Pattern CALL = Pattern.compile("x\\.(\\w+)\\(([-\\d, ]*)\\);\\s*// (-?\\d+)(:.*)?");
    private static final Pattern TEXT = Pattern.compile("put\\(x, \"([^\"]*)\"\\);");
    private static BellHeirs x = null;

    public static void main(String[] args) throws IOException, IllegalAccessException, InvocationTargetException {
        String page = Files.readString(Path.of("README.md"));
        Matcher blocks = Pattern.compile("(?s)```java\n(.*?)```").matcher(page);
        int shown = 0;
        while (blocks.find()) {
            for (String line : blocks.group(1).split("\n")) {
                due.is("README.md can be run: " + line, runs(line) ? 1 : 0, 1);
                shown++;
            }
        }
        due.is("README.md shows calls", shown > 40 ? 1 : 0, 1);
        for (Method m : BellHeirs.class.getDeclaredMethods()) {
            if (Modifier.isPublic(m.getModifiers())) {
                due.is("README.md names " + m.getName(), page.contains("`" + m.getName() + "`") ? 1 : 0, 1);
            }
        }
        due.end();
    }

    private static boolean runs(String line) throws IllegalAccessException, InvocationTargetException {
        if (line.equals("BellHeirs x = new BellHeirs();")) {
            x = new BellHeirs();
            return true;
        }
        Matcher text = TEXT.matcher(line);
        if (text.matches()) {
            Due.put(x, text.group(1));
            return true;
        }
        Matcher call = CALL.matcher(line);
        return call.matches() && answersAsTold(call);
    }

    private static boolean answersAsTold(Matcher call) throws IllegalAccessException, InvocationTargetException {
        String[] numbers = call.group(2).isBlank() ? new String[0] : call.group(2).split(",");
        Object[] given = new Object[numbers.length];
        for (int i = 0; i < given.length; i++) {
            given[i] = Integer.valueOf(numbers[i].trim());
        }
        for (Method m : BellHeirs.class.getDeclaredMethods()) {
            if (Modifier.isPublic(m.getModifiers()) && m.getName().equals(call.group(1))
                && m.getParameterCount() == given.length) {
                Number got = (Number) m.invoke(x, given);
                due.is(call.group(), got.longValue(), Long.parseLong(call.group(3)));
                return true;
            }
        }
        return false;
    }
}
