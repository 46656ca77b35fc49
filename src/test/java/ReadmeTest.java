import java.io.IOException;
import java.lang.reflect.InvocationTargetException;
import java.lang.reflect.Method;
import java.lang.reflect.Modifier;
import java.nio.file.Files;
import java.nio.file.Path;
import java.util.regex.Matcher;
import java.util.regex.Pattern;

/** README.md tells the truth: its run of calls answers as it says there, and it names every call. */
public final class ReadmeTest {
    private static final Pattern CALL = Pattern.compile("street\\.(\\w+)\\(([^)]*)\\); +// (-?\\d+)\\b.*");
    private static final int LEAST_CALLS = 20;
    private static int wrong;

    private static void check(boolean holds, String otherwise) {
        if (!holds) {
            wrong++;
            System.out.println(otherwise);
        }
    }

    private static Method named(String name) {
        for (Method m : ShopsAsOne.class.getDeclaredMethods()) {
            if (Modifier.isPublic(m.getModifiers()) && m.getName().equals(name)) {
                return m;
            }
        }
        throw new IllegalStateException("README.md calls what is not there: " + name);
    }

    private static Object argument(Class<?> type, String text) {
        if (type == boolean.class) {
            return Boolean.valueOf(text);
        }
        return type == long.class ? (Object) Long.valueOf(text.replace("L", "")) : Integer.valueOf(text);
    }

    private static long answer(ShopsAsOne street, String name, String given)
            throws IllegalAccessException, InvocationTargetException {
        Method m = named(name);
        String[] texts = given.isEmpty() ? new String[0] : given.split(", ");
        Object[] arguments = new Object[texts.length];
        for (int i = 0; i < texts.length; i++) {
            arguments[i] = argument(m.getParameterTypes()[i], texts[i]);
        }
        return ((Number) m.invoke(street, arguments)).longValue();
    }

    public static void main(String[] args) throws IOException, IllegalAccessException, InvocationTargetException {
        String page = Files.readString(Path.of("README.md"));
        ShopsAsOne street = new ShopsAsOne();
        int calls = 0;
        for (String line : page.split("\n")) {
            Matcher call = CALL.matcher(line);
            if (line.startsWith("street.")) {
                calls++;
                boolean isTold = call.matches();
                check(isTold, "not a call with its answer: " + line);
                long got = isTold ? answer(street, call.group(1), call.group(2)) : 0;
                check(!isTold || got == Long.parseLong(call.group(3)), line + ": answered " + got);
            }
        }
        check(calls >= LEAST_CALLS, "only " + calls + " calls found");
        for (Method m : ShopsAsOne.class.getDeclaredMethods()) {
            boolean isNamed = page.contains("`" + m.getName() + "`");
            check(isNamed || !Modifier.isPublic(m.getModifiers()), "README.md does not name " + m.getName());
        }
        System.out.println(calls + " calls of README.md, " + wrong + " wrong");
        if (wrong != 0) {
            System.exit(1);
        }
    }
}
