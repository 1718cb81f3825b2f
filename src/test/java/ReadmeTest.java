import java.lang.reflect.Method;
import java.lang.reflect.Modifier;
import java.nio.file.Files;
import java.nio.file.Path;
import java.util.regex.Matcher;
import java.util.regex.Pattern;

/** What README.md says of the class is so: its example answers as told there, and no call is left out. */
public final class ReadmeTest {
    private static final Pattern CALL = Pattern.compile("(?m)^x\\.(\\w+)\\(([^)]*)\\); +// (-?\\d+)");
    private static final Pattern TEXT = Pattern.compile("\"(R[0-9FT]*)\"");
    private static int wrong = 0;

    private static void due(String call, long got, long want) {
        if (got != want) {
            wrong++;
            System.out.println(call + " answered " + got + ", due is " + want);
        }
    }

    private static Method named(String name) {
        for (Method m : PleatRoads.class.getDeclaredMethods()) {
            if (m.getName().equals(name) && Modifier.isPublic(m.getModifiers())) {
                return m;
            }
        }
        return null;
    }

    private static Object value(Class<?> type, String told) {
        if (type == boolean.class) {
            return Boolean.valueOf(told);
        }
        if (type == long.class) {
            return Long.valueOf(told);
        }
        return Integer.valueOf(told);
    }

    private static long answer(PleatRoads x, Method m, String told) throws ReflectiveOperationException {
        Class<?>[] types = m.getParameterTypes();
        Object[] values = new Object[types.length];
        String[] each = told.split(", ");
        for (int i = 0; i < types.length; i++) {
            values[i] = value(types[i], each[i]);
        }
        return ((Number) m.invoke(x, values)).longValue();
    }

    private static void example(String readme) throws ReflectiveOperationException {
        Matcher text = TEXT.matcher(readme);
        due("the road in README.md, found", text.find() ? 1 : 0, 1);
        PleatRoads x = new PleatRoads();
        for (char letter : text.group(1).toCharArray()) {
            x.write(letter);
        }
        int calls = 0;
        for (Matcher call = CALL.matcher(readme); call.find(); calls++) {
            Method m = named(call.group(1));
            if (m == null) {
                due(call.group(1) + " in the class", 0, 1);
            } else {
                due(call.group(), answer(x, m, call.group(2)), Long.parseLong(call.group(3)));
            }
        }
        due("the example has ten calls or more", calls >= 10 ? 1 : 0, 1);
    }

    private static void allAreNamed(String readme) {
        for (Method m : PleatRoads.class.getDeclaredMethods()) {
            if (Modifier.isPublic(m.getModifiers())) {
                due(m.getName() + " in README.md", readme.contains("`" + m.getName() + "`") ? 1 : 0, 1);
            }
        }
    }

    public static void main(String[] args) throws Exception {
        String readme = Files.readString(Path.of("README.md"));
        example(readme);
        allAreNamed(readme);
        System.out.println(wrong == 0 ? "README.md is so" : wrong + " answers are not as README.md has them");
        if (wrong != 0) {
            System.exit(1);
        }
    }
}
