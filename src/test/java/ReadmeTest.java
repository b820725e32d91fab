import java.io.IOException;
import java.lang.reflect.Method;
import java.lang.reflect.Modifier;
import java.nio.file.Files;
import java.nio.file.Path;
import java.util.regex.Matcher;
import java.util.regex.Pattern;

/** README.md: its examples answer what it tells of them, and its table has every call. */
final class ReadmeTest {
    private static final Pattern CALL = Pattern.compile("school\\.(\\w+)\\(([^)]*)\\);");
    private static final Pattern TOLD = Pattern.compile("// (-?\\d+|[A-Z_]+):");

    private static VernierSchool school;
    private static int answers;

    public static void main(String[] args) throws ReflectiveOperationException, IOException {
        String page = Files.readString(Path.of("README.md"));
        school = new VernierSchool();
        for (String line : page.split("\n")) {
            example(line);
        }
        Check.isTrue("there are examples", answers > 15);
        everyCall(page);
        Check.end();
    }

    /** A line of an example has calls, and tells what the last one of them answers. */
    private static void example(String line) throws ReflectiveOperationException {
        Matcher calls = CALL.matcher(line);
        int answer = 0;
        String last = "";
        while (calls.find()) {
            answer = answer(calls.group(1), calls.group(2));
            last = calls.group();
        }
        if (last.isEmpty()) {
            return;
        }
        Matcher told = TOLD.matcher(line);
        boolean tells = told.find();
        Check.isTrue("README.md tells what is answered by " + last, tells);
        if (tells) {
            answers++;
            Check.due("README.md: " + last, answer, number(told.group(1)));
        }
    }

    private static int answer(String name, String words) throws ReflectiveOperationException {
        Method method = method(name);
        String[] given = words.isEmpty() ? new String[0] : words.split(", ");
        Object[] values = new Object[given.length];
        for (int i = 0; i < given.length; i++) {
            Class<?> type = method.getParameterTypes()[i];
            values[i] = type == boolean.class ? (Object) Boolean.valueOf(given[i])
                    : type == char.class ? (Object) given[i].charAt(1)
                    : (Object) Integer.valueOf(given[i]);
        }
        return (Integer) method.invoke(school, values);
    }

    private static Method method(String name) {
        for (Method method : VernierSchool.class.getDeclaredMethods()) {
            if (method.getName().equals(name)) {
                return method;
            }
        }
        throw new IllegalArgumentException("README.md: there is no call " + name);
    }

    private static int number(String told) throws ReflectiveOperationException {
        return Character.isUpperCase(told.charAt(0))
                ? VernierSchool.class.getField(told).getInt(null) : Integer.parseInt(told);
    }

    private static void everyCall(String page) {
        for (Method method : VernierSchool.class.getDeclaredMethods()) {
            if (Modifier.isPublic(method.getModifiers())) {
                int given = method.getParameterCount();
                String words = given == 0 ? "" : "\\w+(, \\w+){" + (given - 1) + "}";
                Check.isTrue("README.md has the call " + method.getName(), Pattern.compile(
                        "`" + method.getName() + "\\(" + words + "\\)`").matcher(page).find());
            }
        }
    }
}
