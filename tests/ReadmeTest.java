import java.lang.reflect.Method;
import java.lang.reflect.Modifier;
import java.nio.file.Path;
import java.util.regex.Matcher;
import java.util.regex.Pattern;

/** README.md: the run that it shows answers as it says, and its table has each call with its parameters. */
public final class ReadmeTest {
    private static final Pattern ASKED = Pattern.compile("(?m)^house\\.(\\w+)\\(([^)]*)\\); +// (-?\\d+)");

    public static void main(String[] args) throws ReflectiveOperationException {
        String readme = House.read(Path.of("README.md"));
        BrowserHouse house = new BrowserHouse();
        Matcher asked = ASKED.matcher(readme);
        while (asked.find()) {
            String call = asked.group(1) + "(" + asked.group(2) + ")";
            House.due("README.md: " + call, answer(house, asked.group(1), asked.group(2)), Long.parseLong(asked.group(3)));
        }
        for (Method method : BrowserHouse.class.getDeclaredMethods()) {
            if (Modifier.isPublic(method.getModifiers())) {
                House.due("README.md tells of " + method.getName(), rows(readme, method), 1);
            }
        }
        House.finish();
    }

    private static long answer(BrowserHouse house, String name, String told) throws ReflectiveOperationException {
        String[] words = told.isEmpty() ? new String[0] : told.split(", ");
        Class<?>[] types = new Class<?>[words.length];
        Object[] values = new Object[words.length];
        for (int i = 0; i < words.length; i++) {
            types[i] = int.class;
            values[i] = Long.decode(words[i]).intValue();
        }
        return (Integer) BrowserHouse.class.getMethod(name, types).invoke(house, values);
    }

    private static int rows(String readme, Method method) {
        int rows = 0;
        Matcher row = Pattern.compile("(?m)^\\| `" + method.getName() + "\\(([^)]*)\\)` \\|").matcher(readme);
        while (row.find()) {
            int parameters = row.group(1).isEmpty() ? 0 : row.group(1).split(", ").length;
            rows += parameters == method.getParameterCount() ? 1 : 0;
        }
        return rows;
    }
}
