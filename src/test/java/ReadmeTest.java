import java.lang.reflect.Method;
import java.lang.reflect.Modifier;
import java.nio.file.Files;
import java.nio.file.Path;
import java.util.regex.Matcher;
import java.util.regex.Pattern;

/** The README's example answers what it says, and the README names every call. */
public final class ReadmeTest {
    private static final Pattern CALL = Pattern.compile("x\\.(\\w+)\\((.*?)\\);\\s*// (-?\\d+):.*");

    public static void main(String[] args) throws Exception {
        String readme = Files.readString(Path.of(args[0], "README.md"));
        Check.due("calls in the example that were made", example(readme), linesWithCalls(readme));
        for (Method method : BinderParcels.class.getDeclaredMethods()) {
            if (Modifier.isPublic(method.getModifiers())) {
                Check.due("whether the README names " + method.getName(),
                    readme.contains("`" + method.getName() + "`") ? 1 : 0, 1);
            }
        }
        Check.finish();
    }

    private static String code(String readme) {
        int start = readme.indexOf("```java");
        return start < 0 ? "" : readme.substring(start, readme.indexOf("```", start + 3));
    }

    /** At least one, so that an example which is not found is a failure. */
    private static long linesWithCalls(String readme) {
        return Math.max(1, code(readme).lines().filter(line -> line.startsWith("x.")).count());
    }

    /** Makes the example's calls one after the other; returns how many there were. */
    private static int example(String readme) throws Exception {
        BinderParcels x = new BinderParcels();
        int made = 0;
        for (String line : code(readme).lines().toList()) {
            Matcher call = CALL.matcher(line);
            if (call.matches()) {
                Check.due("the README's " + line.substring(0, line.indexOf(';')),
                    answer(x, call.group(1), call.group(2)), Long.parseLong(call.group(3)));
                made++;
            }
        }
        return made;
    }

    private static int answer(BinderParcels x, String name, String list) throws Exception {
        String[] texts = list.isEmpty() ? new String[0] : list.split(", ");
        for (Method method : BinderParcels.class.getDeclaredMethods()) {
            if (method.getName().equals(name) && Modifier.isPublic(method.getModifiers())) {
                Object[] values = new Object[texts.length];
                for (int i = 0; i < texts.length; i++) {
                    values[i] = value(method.getParameterTypes()[i], texts[i]);
                }
                return (Integer) method.invoke(x, values);
            }
        }
        throw new IllegalArgumentException("there is no call " + name);
    }

    private static Object value(Class<?> type, String text) {
        if (type == boolean.class) {
            return Boolean.valueOf(text);
        }
        long number = Long.decode(text.replace("L", ""));
        if (type == long.class) {
            return number;
        }
        return (int) number;
    }
}
